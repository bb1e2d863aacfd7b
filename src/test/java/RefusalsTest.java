import java.util.ArrayList;
import java.util.List;

/**
 * What is refused changes nothing: each refused call is made on one of two
 * objects that are alike, and then both must give the same answers to calls
 * that look at, and go on with, all that there is.
 */
final class RefusalsTest {
    private static final int LEAST = Integer.MIN_VALUE;
    private static final int MOST = Integer.MAX_VALUE;
    private static final int NONE = ConditionRows.NONE;

    /** A new object, and what has been done with it. */
    private interface State {
        ConditionRows made();
    }

    public static void main(String[] args) {
        ofFields(RefusalsTest::midway);
        ofWeights(RefusalsTest::midway);
        ofNodesOutside(RefusalsTest::midway);
        ofNodesMissing(RefusalsTest::midway);
        ofNames(RefusalsTest::midway);
        ofRows(RefusalsTest::midway);
        ofTests(RefusalsTest::midway);
        ofSwitches(RefusalsTest::midway);
        withoutARow(RefusalsTest::withoutRow);
        ofAnEmptyObject(RefusalsTest::empty);
        noRoomForARelation(RefusalsTest::fullRow);
        noRoomForAll(RefusalsTest::littleRoom);
        noRoom(RefusalsTest::full);
        ahead(RefusalsTest::full);
        Check.end();
    }

    private static ConditionRows empty() {
        return new ConditionRows(0);
    }

    // Fields 0 to 7, nodes 1 to 8, names 1 to 3 (the last one full), switches,
    // a latest test of two leaves.
    private static ConditionRows withoutRow() {
        ConditionRows rows = new ConditionRows(1);
        Check.text(rows, "AB1");
        Check.digits(rows, "12r");
        Check.binary(rows, 2, -123);
        Check.digits(rows, "1?3");
        Check.text(rows, "AB1");
        Check.digits(rows, "12r");
        Check.binary(rows, 8, -12300);
        Check.text(rows, "01234567890123456789012345678901");
        rows.scale(1, 2);
        rows.scale(2, 3);
        rows.weight('B', 200);
        rows.weight(255, 7);
        rows.switchOn(0, true);
        rows.switchOn(15, true);
        rows.name88(1, -123, -123);
        rows.name88(0, 0, -1);
        rows.name88(2, 1, 1);
        for (int has = 2; has <= 8; has++) {
            rows.range(3, has, has);
        }
        rows.node(0, 0, 4);
        rows.node(7, 2, -1);
        rows.node(8, 1, 0);
        rows.node(8, 2, 0);
        rows.node(8, 3, 0);
        rows.node(9, 15, 0);
        rows.node(9, 14, 0);
        rows.node(12, 7, 6);
        rows.truth(8);
        return rows;
    }

    private static ConditionRows midway() {
        ConditionRows rows = withoutRow();
        rows.short0(2, 1, 1);
        rows.more(1, true, 0, 5);
        rows.more(0, true, NONE, 6);
        return rows;
    }

    // A full row that can be unfolded, so that each of its relations can be seen.
    private static ConditionRows fullRow() {
        ConditionRows rows = withoutRow();
        rows.short0(2, 1, 1);
        for (int has = 2; has <= 20; has++) {
            rows.more(has % 2, has % 3 == 0, has % 7 - 1, 5 + has % 2);
        }
        return rows;
    }

    // Room for three nodes; the row needs four.
    private static ConditionRows littleRoom() {
        ConditionRows rows = withoutRow();
        for (int node = 9; node <= 197; node++) {
            rows.node(10, node - 1, 0);
        }
        rows.short0(2, 1, 1);
        rows.more(1, true, NONE, 5);
        return rows;
    }

    // No room for a field, a node, a name, a relation, nor a range of names 1 and 40.
    private static ConditionRows full() {
        ConditionRows rows = new ConditionRows(0);
        for (int n = 0; n < 40; n++) {
            rows.field(n % 3, 1 + n % 8);
        }
        for (int name = 1; name <= 40; name++) {
            rows.name88(name % 3, 0, 0);
        }
        for (int has = 2; has <= 8; has++) {
            rows.range(1, has, has);
            rows.range(40, has, has);
        }
        rows.switchOn(3, true);
        for (int node = 1; node <= 200; node++) {
            rows.node(node < 17 ? 9 : 10, node < 17 ? node - 1 : node - 16, 0);
        }
        rows.short0(1, 3, 2);
        for (int has = 2; has <= 20; has++) {
            rows.more(has % 2, has % 3 == 0, has % 7 - 1, has);
        }
        rows.truth(36);
        return rows;
    }

    private static void dueRefused(State state, String what, int want, Check.Call call) {
        ConditionRows refusing = state.made();
        ConditionRows twin = state.made();
        Check.due(what, Check.answer(refusing, call), want);
        List<Check.Call> calls = looking();
        for (int n = 0; n < calls.size(); n++) {
            int got = Check.answer(refusing, calls.get(n));
            int same = Check.answer(twin, calls.get(n));
            Check.due(what + " changes nothing, call " + n + " behind it", got, same);
        }
    }

    // At most 190 calls: the full object has had more than 300 of its 512.
    private static List<Check.Call> looking() {
        List<Check.Call> calls = new ArrayList<>();
        for (int n = 0; n <= 5; n++) {
            int what = n;
            calls.add(rows -> rows.count(what));
        }
        for (int n = 0; n <= 3; n++) {
            int i = n;
            calls.add(rows -> rows.asked(i));
        }
        lookAtFields(calls);
        lookAtNodes(calls);
        goOn(calls);
        return calls;
    }

    private static void lookAtFields(List<Check.Call> calls) {
        for (int n = 0; n < 8; n++) {
            int field = n;
            calls.add(rows -> rows.compare(field, field));
            calls.add(rows -> rows.compare(field, (field + 4) % 8));
            calls.add(rows -> rows.compare(field, 7));
        }
        calls.add(rows -> rows.compare(1, 2));
        calls.add(rows -> rows.compare(2, 6));
        calls.add(rows -> rows.compare(38, 39));
        for (int n = 0; n < 8; n++) {
            int field = n;
            calls.add(rows -> rows.scale(field, 1));
        }
        for (int b : new int[] {0, 1, 32, 48, 'A', 'B', 254, 255}) {
            calls.add(rows -> rows.weight(b, b));
        }
        calls.add(rows -> rows.compare(0, 4));
    }

    private static void lookAtNodes(List<Check.Call> calls) {
        for (int n = 1; n <= 9; n++) {
            int node = n;
            calls.add(rows -> rows.truth(node) ? 1 : 0);
            calls.add(rows -> rows.count(4));
        }
        calls.add(rows -> rows.truth(200) ? 1 : 0);
        for (int n : new int[] {1, 2, 3, 4, 40}) {
            calls.add(rows -> rows.range(n, 9, 9));
        }
        for (int n = 0; n < 16; n++) {
            int number = n;
            calls.add(rows -> rows.switchOn(number, false));
        }
    }

    private static void goOn(List<Check.Call> calls) {
        // A full row would refuse this, too, on both objects alike.
        calls.add(rows -> rows.count(3) < 20 ? rows.more(0, false, NONE, 5) : 0);
        calls.add(rows -> rows.count(3));
        calls.add(ConditionRows::unfold);
        calls.add(rows -> rows.count(1));
        calls.add(rows -> rows.truth(rows.count(1)) ? 1 : 0);
        calls.add(rows -> rows.asked(rows.count(4) - 1));
        for (int n = 9; n <= 17; n++) {
            int node = n;
            calls.add(rows -> rows.truth(node) ? 1 : 0);
            calls.add(rows -> rows.asked(1));
        }
        calls.add(rows -> rows.field(0, 8));
        calls.add(rows -> rows.name88(8, 0x2020202020202020L, 0x2020202020202020L));
        calls.add(rows -> rows.node(8, 4, 0));
        calls.add(rows -> rows.truth(rows.count(1)) ? 1 : 0);
        calls.add(rows -> rows.short0(0, 0, 4));
        calls.add(ConditionRows::unfold);
        calls.add(rows -> rows.truth(rows.count(1)) ? 1 : 0);
    }

    private static void ofFields(State state) {
        int[] most = {32, 18, 8};
        for (int category = 0; category < 3; category++) {
            int of = category;
            for (int size : new int[] {LEAST, -1, 0, most[of] + 1, MOST}) {
                dueRefused(state, "field(" + of + ", " + size + ")", -4, rows -> rows.field(of, size));
            }
        }
        for (int category : new int[] {LEAST, -1, 3, MOST}) {
            dueRefused(state, "field(" + category + ", 1)", -4, rows -> rows.field(category, 1));
        }
        for (int none : new int[] {LEAST, -1, 8, 40, MOST}) {
            dueRefused(state, "octet(" + none + ", 0, 65)", -2, rows -> rows.octet(none, 0, 65));
            dueRefused(state, "octet(" + none + ", -1, 65)", -2, rows -> rows.octet(none, -1, 65));
            dueRefused(state, "scale(" + none + ", 4)", -2, rows -> rows.scale(none, 4));
            dueRefused(state, "scale(" + none + ", 10)", -2, rows -> rows.scale(none, 10));
        }
        int[] sizes = {3, 3, 2, 3, 3, 3, 8, 32};
        for (int n = 0; n < sizes.length; n++) {
            int field = n;
            for (int i : new int[] {LEAST, -1, sizes[n], 32, MOST}) {
                dueRefused(state, "octet(" + field + ", " + i + ", 57)", -4, rows -> rows.octet(field, i, 57));
            }
            boolean text = n == 0 || n == 4 || n == 7;
            for (int scale : new int[] {LEAST, -1, 10, MOST}) {
                dueRefused(state, "scale(" + field + ", " + scale + ")", text ? -2 : -4,
                    rows -> rows.scale(field, scale));
            }
        }
        dueRefused(state, "scale(0, 4) of a text", -2, rows -> rows.scale(0, 4));
    }

    private static void ofWeights(State state) {
        for (int outside : new int[] {LEAST, -1, 256, 256 + 'B', MOST}) {
            dueRefused(state, "weight(" + outside + ", 9)", -4, rows -> rows.weight(outside, 9));
            dueRefused(state, "weight('B', " + outside + ")", -4, rows -> rows.weight('B', outside));
            dueRefused(state, "weight(255, " + outside + ")", -4, rows -> rows.weight(255, outside));
        }
    }

    private static void ofNodesOutside(State state) {
        for (int op : new int[] {LEAST, -1, 13, MOST}) {
            dueRefused(state, "node(" + op + ", 1, 1)", -4, rows -> rows.node(op, 1, 1));
            dueRefused(state, "node(" + op + ", 99, 99)", -4, rows -> rows.node(op, 99, 99));
        }
        for (int kind : new int[] {LEAST, -1, 4, MOST}) {
            dueRefused(state, "class " + kind, -4, rows -> rows.node(6, 0, kind));
            dueRefused(state, "class " + kind + " of none", -4, rows -> rows.node(6, 99, kind));
        }
        for (int sign : new int[] {LEAST, -2, 2, MOST}) {
            dueRefused(state, "sign " + sign, -4, rows -> rows.node(7, 1, sign));
            dueRefused(state, "sign " + sign + " of a text", -4, rows -> rows.node(7, 0, sign));
            dueRefused(state, "sign " + sign + " of none", -4, rows -> rows.node(7, 99, sign));
        }
        for (int n : new int[] {LEAST, -1, 16, MOST}) {
            dueRefused(state, "switch " + n, -4, rows -> rows.node(9, n, 0));
        }
    }

    private static void ofNodesMissing(State state) {
        for (int n = 0; n <= 5; n++) {
            int op = n;
            for (int none : new int[] {LEAST, -1, 8, 40, MOST}) {
                dueRefused(state, "relation of " + none, -2, rows -> rows.node(op, none, 0));
                dueRefused(state, "relation with " + none, -2, rows -> rows.node(op, 0, none));
            }
        }
        for (int none : new int[] {LEAST, -1, 8, 40, MOST}) {
            dueRefused(state, "class of " + none, -2, rows -> rows.node(6, none, 0));
            dueRefused(state, "sign of " + none, -2, rows -> rows.node(7, none, 0));
        }
        dueRefused(state, "sign of a text", -2, rows -> rows.node(7, 0, 0));
        for (int none : new int[] {LEAST, -1, 0, 4, 41, MOST}) {
            dueRefused(state, "name " + none, -2, rows -> rows.node(8, none, 0));
        }
        for (int none : new int[] {LEAST, -1, 0, 9, 201, MOST}) {
            dueRefused(state, "not " + none, -2, rows -> rows.node(10, none, 0));
            for (int n = 11; n <= 12; n++) {
                int op = n;
                dueRefused(state, op + " of " + none, -2, rows -> rows.node(op, none, 1));
                dueRefused(state, op + " with " + none, -2, rows -> rows.node(op, 1, none));
            }
        }
    }

    private static void ofNames(State state) {
        for (int none : new int[] {LEAST, -1, 8, 40, MOST}) {
            dueRefused(state, "a name of " + none, -2, rows -> rows.name88(none, 1, 2));
            dueRefused(state, "a name of " + none + ", 2 to 1", -2, rows -> rows.name88(none, 2, 1));
        }
        for (int none : new int[] {LEAST, -1, 0, 4, 41, MOST}) {
            dueRefused(state, "a range of " + none, -2, rows -> rows.range(none, 1, 2));
            dueRefused(state, "a range of " + none + ", 2 to 1", -2, rows -> rows.range(none, 2, 1));
        }
        dueRefused(state, "a name from 1 to 0", 0, rows -> rows.name88(1, 1, 0));
        dueRefused(state, "a name from 0 to -1", 0, rows -> rows.name88(2, 0, -1));
        dueRefused(state, "a text's name from -1 to 0", 0, rows -> rows.name88(0, -1, 0));
        dueRefused(state, "a range from 1 to 0", 0, rows -> rows.range(1, 1, 0));
        dueRefused(state, "a range from 0 to -1", 0, rows -> rows.range(1, 0, -1));
        dueRefused(state, "a text's range from -1 to 0", 0, rows -> rows.range(2, -1, 0));
        dueRefused(state, "a ninth range from 1 to 0", 0, rows -> rows.range(3, 1, 0));
        dueRefused(state, "a ninth range", NONE, rows -> rows.range(3, -123, -123));
    }

    private static void ofRows(State state) {
        for (int op : new int[] {LEAST, -1, 6, MOST}) {
            dueRefused(state, "a row by " + op, -4, rows -> rows.short0(1, op, 5));
        }
        for (int none : new int[] {LEAST, -1, 8, 40, MOST}) {
            dueRefused(state, "a row of " + none, -2, rows -> rows.short0(none, 0, 5));
            dueRefused(state, "a row with " + none, -2, rows -> rows.short0(1, 0, none));
            dueRefused(state, "more with field " + none, -2, rows -> rows.more(0, false, 2, none));
            dueRefused(state, "more with field " + none + ", with 2", -2, rows -> rows.more(2, false, 2, none));
            dueRefused(state, "more with field " + none + ", op 6", -2, rows -> rows.more(0, false, 6, none));
        }
        for (int with : new int[] {LEAST, -1, 2, MOST}) {
            dueRefused(state, "more with " + with, -4, rows -> rows.more(with, true, 2, 5));
            dueRefused(state, "more with " + with + ", op NONE", -4, rows -> rows.more(with, true, NONE, 5));
        }
        for (int op : new int[] {LEAST, -2, 6, MOST}) {
            dueRefused(state, "more by " + op, -4, rows -> rows.more(0, true, op, 5));
            dueRefused(state, "more by " + op + ", with 2", -4, rows -> rows.more(2, true, op, 5));
        }
    }

    private static void ofTests(State state) {
        for (int none : new int[] {LEAST, -1, 0, 9, 201, MOST}) {
            dueRefused(state, "truth(" + none + ")", Check.THROWS_ARGUMENT, rows -> rows.truth(none) ? 1 : 0);
        }
        for (int none : new int[] {LEAST, -1, 8, 40, MOST}) {
            dueRefused(state, "compare(" + none + ", 0)", Check.THROWS_ARGUMENT, rows -> rows.compare(none, 0));
            dueRefused(state, "compare(0, " + none + ")", Check.THROWS_ARGUMENT, rows -> rows.compare(0, none));
            dueRefused(state, "compare(3, " + none + ")", Check.THROWS_ARGUMENT, rows -> rows.compare(3, none));
        }
        dueRefused(state, "compare(3, 0)", Check.THROWS_STATE, rows -> rows.compare(3, 0));
        dueRefused(state, "compare(1, 3)", Check.THROWS_STATE, rows -> rows.compare(1, 3));
        for (int i : new int[] {LEAST, -1, 2, 200, MOST}) {
            dueRefused(state, "asked(" + i + ")", 0, rows -> rows.asked(i));
        }
        for (int what : new int[] {LEAST, -1, 6, MOST}) {
            dueRefused(state, "count(" + what + ")", NONE, rows -> rows.count(what));
        }
    }

    private static void ofSwitches(State state) {
        for (int n : new int[] {LEAST, -1, 16, MOST}) {
            dueRefused(state, "switchOn(" + n + ", true)", -4, rows -> rows.switchOn(n, true));
            dueRefused(state, "switchOn(" + n + ", false)", -4, rows -> rows.switchOn(n, false));
        }
    }

    private static void withoutARow(State state) {
        dueRefused(state, "more", -4, rows -> rows.more(0, false, 0, 0));
        dueRefused(state, "more, op NONE", -4, rows -> rows.more(1, true, NONE, 0));
        dueRefused(state, "more of no field", -4, rows -> rows.more(0, false, 0, 8));
        dueRefused(state, "more with 2", -4, rows -> rows.more(2, false, 0, 0));
        dueRefused(state, "unfold", 0, ConditionRows::unfold);
        dueRefused(state, "a row by 6", -4, rows -> rows.short0(0, 6, 0));
        dueRefused(state, "a row of no field", -2, rows -> rows.short0(8, 0, 0));
    }

    private static void ofAnEmptyObject(State state) {
        dueRefused(state, "octet", -2, rows -> rows.octet(0, 0, 0));
        dueRefused(state, "scale", -2, rows -> rows.scale(0, 0));
        dueRefused(state, "node", -2, rows -> rows.node(0, 0, 0));
        dueRefused(state, "class", -2, rows -> rows.node(6, 0, 0));
        dueRefused(state, "sign", -2, rows -> rows.node(7, 0, 0));
        dueRefused(state, "name", -2, rows -> rows.node(8, 1, 0));
        dueRefused(state, "not", -2, rows -> rows.node(10, 1, 0));
        dueRefused(state, "name88", -2, rows -> rows.name88(0, 0, 0));
        dueRefused(state, "range", -2, rows -> rows.range(1, 0, 0));
        dueRefused(state, "short0", -2, rows -> rows.short0(0, 0, 0));
        dueRefused(state, "more", -4, rows -> rows.more(0, false, 0, 0));
        dueRefused(state, "unfold", 0, ConditionRows::unfold);
        dueRefused(state, "truth", Check.THROWS_ARGUMENT, rows -> rows.truth(1) ? 1 : 0);
        dueRefused(state, "compare", Check.THROWS_ARGUMENT, rows -> rows.compare(0, 0));
    }

    private static void noRoomForARelation(State state) {
        for (int n = NONE; n <= 5; n++) {
            int op = n;
            dueRefused(state, "the 21st relation by " + op, NONE, rows -> rows.more(0, true, op, 0));
            dueRefused(state, "the 21st relation by " + op, NONE, rows -> rows.more(1, false, op, 7));
        }
        dueRefused(state, "the 21st relation with field 8", -2, rows -> rows.more(0, false, 0, 8));
        dueRefused(state, "the 21st relation with 2", -4, rows -> rows.more(2, false, 0, 1));
        dueRefused(state, "the 21st relation by 6", -4, rows -> rows.more(0, false, 6, 1));
    }

    private static void noRoomForAll(State state) {
        dueRefused(state, "unfold", NONE, ConditionRows::unfold);
    }

    private static void noRoom(State state) {
        for (int n = 0; n < 3; n++) {
            int number = n;
            dueRefused(state, "the 41st field", NONE, rows -> rows.field(number, 8));
            dueRefused(state, "the 41st name", NONE, rows -> rows.name88(number, 9, 9));
        }
        for (int n = 0; n <= 12; n++) {
            int op = n;
            dueRefused(state, "the 201st node by " + op, NONE, rows -> rows.node(op, 1, 1));
        }
        dueRefused(state, "the ninth range of the first name", NONE, rows -> rows.range(1, 0, 0));
        dueRefused(state, "the ninth range of the last name", NONE, rows -> rows.range(40, 9, 9));
        for (int n = NONE; n <= 5; n++) {
            int op = n;
            dueRefused(state, "the 21st relation by " + op, NONE, rows -> rows.more(0, true, op, 1));
        }
        dueRefused(state, "unfold", NONE, ConditionRows::unfold);
    }

    // The other refusals come ahead of no room.
    private static void ahead(State state) {
        dueRefused(state, "a field of 0 bytes", -4, rows -> rows.field(0, 0));
        dueRefused(state, "a field of category 3", -4, rows -> rows.field(3, 1));
        dueRefused(state, "a node by 13", -4, rows -> rows.node(13, 1, 1));
        dueRefused(state, "a node of field 40", -2, rows -> rows.node(0, 40, 1));
        dueRefused(state, "a node of name 41", -2, rows -> rows.node(8, 41, 1));
        dueRefused(state, "a node of node 201", -2, rows -> rows.node(12, 1, 201));
        dueRefused(state, "a text's sign", -2, rows -> rows.node(7, 39, 1));
        dueRefused(state, "a name of field 40", -2, rows -> rows.name88(40, 1, 2));
        dueRefused(state, "a name from 2 to 1", 0, rows -> rows.name88(1, 2, 1));
        dueRefused(state, "a range of name 41", -2, rows -> rows.range(41, 1, 2));
        dueRefused(state, "a range from 2 to 1", 0, rows -> rows.range(1, 2, 1));
        dueRefused(state, "more with field 40", -2, rows -> rows.more(0, false, 0, 40));
        dueRefused(state, "more with 2", -4, rows -> rows.more(2, false, 0, 1));
        dueRefused(state, "more by 6", -4, rows -> rows.more(0, false, 6, 1));
    }
}
