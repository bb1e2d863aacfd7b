/** Promises 9 to 11: short0, more, unfold. */
final class RowsTest {
    public static void main(String[] args) {
        short0();
        more();
        turned();
        unfoldOrder();
        unfoldOne();
        noRoom();
        exactRoom();
        meaning();
        Check.end();
    }

    private static ConditionRows withFields(int fields) {
        ConditionRows rows = new ConditionRows(1);
        for (int i = 0; i < fields; i++) {
            Check.binary(rows, 1, i);
        }
        return rows;
    }

    private static void short0() {
        ConditionRows rows = withFields(3);
        Check.due("op -1", rows.short0(0, -1, 1), -4);
        Check.due("op 6", rows.short0(0, 6, 1), -4);
        Check.due("no subject", rows.short0(3, 0, 1), -2);
        Check.due("subject -1", rows.short0(-1, 0, 1), -2);
        Check.due("no object", rows.short0(0, 0, 3), -2);
        Check.due("object -1", rows.short0(0, 0, -1), -2);
        Check.due("what is refused makes no row", rows.count(3), 0);
        for (int op = 0; op <= 5; op++) {
            Check.due("op " + op, rows.short0(0, op, 1), 1);
        }
        rows.more(0, false, -1, 2);
        Check.due("a refused one", rows.short0(0, 6, 1), -4);
        Check.due("leaves the row", rows.count(3), 2);
        Check.due("a new row", rows.short0(2, 1, 1), 1);
        Check.due("the old one is gone", rows.count(3), 1);
        Check.due("its unfolding", rows.unfold(), 1);
        Check.due("2 < 1", rows.truth(1), false);
    }

    private static void more() {
        ConditionRows rows = withFields(3);
        Check.due("no row", rows.more(0, false, 0, 0), -4);
        Check.due("no row ahead of no field", rows.more(0, false, 0, 9), -4);
        rows.short0(0, 0, 1);
        Check.due("no object", rows.more(0, false, 0, 3), -2);
        Check.due("object -1", rows.more(0, false, 0, -1), -2);
        Check.due("with -1", rows.more(-1, false, 0, 0), -4);
        Check.due("with 2", rows.more(2, false, 0, 0), -4);
        Check.due("op -2", rows.more(0, false, -2, 0), -4);
        Check.due("op 6", rows.more(0, false, 6, 0), -4);
        Check.due("-2 ahead of -4, with", rows.more(2, false, 0, 3), -2);
        Check.due("-2 ahead of -4, op", rows.more(0, false, 6, 3), -2);
        Check.due("what is refused changes nothing", rows.count(3), 1);
        for (int has = 2; has <= 20; has++) {
            Check.due("relation " + has, rows.more(has % 2, has % 3 == 0, has % 7 - 1, has % 3), has);
        }
        Check.due("a relation too many", rows.more(0, false, 0, 0), ConditionRows.NONE);
        Check.due("-2 ahead of no room", rows.more(0, false, 0, 3), -2);
        Check.due("-4 ahead of no room", rows.more(2, false, 0, 0), -4);
        Check.due("count(3)", rows.count(3), 20);
        rows.unfold();
        Check.due("no row after unfold", rows.more(0, false, 0, 0), -4);
    }

    // Node n asks by the op that is due: told by its truth of 0, 1, 2 with 1.
    private static void dueOp(ConditionRows rows, int node, int op) {
        boolean[][] truths = {
            {false, true, false}, {true, false, false}, {false, false, true},
            {true, true, false}, {false, true, true}, {true, false, true},
        };
        for (int value = 0; value <= 2; value++) {
            rows.octet(0, 0, value);
            Check.due("node " + node + " of " + value + " by " + op, rows.truth(node), truths[op][value]);
        }
    }

    private static void turned() {
        int[] turned = {5, 4, 3, 2, 1, 0};
        for (int op = 0; op <= 5; op++) {
            ConditionRows rows = withFields(2);
            rows.short0(0, (op + 1) % 6, 1);
            rows.more(0, true, op, 1);
            rows.more(0, false, -1, 1);
            rows.more(0, true, -1, 1);
            rows.more(0, false, -1, 1);
            rows.more(0, false, op, 1);
            Check.due("the node of all", rows.unfold(), 12);
            dueOp(rows, 1, (op + 1) % 6);
            dueOp(rows, 2, turned[op]);
            dueOp(rows, 4, turned[op]);
            dueOp(rows, 6, turned[op]);
            dueOp(rows, 7, op);
            dueOp(rows, 9, turned[op]);
            dueOp(rows, 11, op);
        }
    }

    private static void unfoldOrder() {
        ConditionRows rows = withFields(6);
        Check.due("no row", rows.unfold(), 0);
        rows.node(9, 0, 0);
        rows.short0(0, 0, 1);
        rows.more(1, false, -1, 2);
        rows.more(0, true, -1, 3);
        rows.more(0, false, -1, 4);
        rows.more(1, true, -1, 5);
        Check.due("the node of all", rows.unfold(), 12);
        Check.due("count(1)", rows.count(1), 12);
        Check.due("the row is gone", rows.count(3), 0);
        Check.due("and no other comes", rows.unfold(), 0);
        rows.truth(12);
        Check.dueLeaves("the leaves", rows, 2, 3, 4, 7, 10);
        rows.truth(6);
        Check.dueLeaves("an and as soon as its right side is there", rows, 3, 4);
        rows.truth(8);
        Check.dueLeaves("the and of the group", rows, 3, 4, 7);
        rows.truth(9);
        Check.dueLeaves("an or when the right group is whole", rows, 2, 3, 4, 7);
        rows.truth(11);
        Check.dueLeaves("a not behind its relation", rows, 10);
    }

    private static void unfoldOne() {
        ConditionRows rows = withFields(2);
        rows.short0(0, 1, 1);
        Check.due("one relation", rows.unfold(), 1);
        Check.due("0 < 1", rows.truth(1), true);
        rows.short0(1, 1, 0);
        Check.due("another row", rows.unfold(), 2);
        Check.due("1 < 0", rows.truth(2), false);
    }

    private static void noRoom() {
        ConditionRows rows = withFields(2);
        for (int n = 0; n < 196; n++) {
            rows.node(9, 0, 0);
        }
        rows.short0(0, 0, 1);
        rows.more(0, true, -1, 1);
        rows.more(1, false, -1, 1);
        Check.due("6 nodes have no room", rows.unfold(), ConditionRows.NONE);
        Check.due("none was made", rows.count(1), 196);
        Check.due("the row stays", rows.count(3), 3);
        Check.due("and can go on", rows.more(0, false, 0, 0), 4);
        rows.short0(0, 0, 1);
        rows.more(0, true, -1, 1);
        Check.due("4 nodes have room", rows.unfold(), 200);
        rows.short0(0, 0, 1);
        Check.due("not one more", rows.unfold(), ConditionRows.NONE);
        Check.due("that row stays, too", rows.count(3), 1);
    }

    private static void exactRoom() {
        for (int spare = 38; spare <= 40; spare++) {
            ConditionRows rows = withFields(2);
            for (int n = 0; n < 200 - spare; n++) {
                rows.node(9, 0, 0);
            }
            rows.short0(0, 0, 1);
            for (int has = 2; has <= 20; has++) {
                rows.more(has % 2, false, -1, 1);
            }
            Check.due("39 nodes in " + spare, rows.unfold(), spare < 39 ? -1 : 200 - spare + 39);
        }
    }

    // 0 = 1 or 0 < 2 and not > 0 : an and binds closer than an or.
    private static void meaning() {
        ConditionRows rows = withFields(3);
        rows.short0(0, 0, 1);
        rows.more(1, false, 1, 2);
        rows.more(0, true, 2, 0);
        int all = rows.unfold();
        Check.due("false or true and true", rows.truth(all), true);
        rows.short0(0, 1, 1);
        rows.more(1, false, -1, 2);
        rows.more(0, false, -1, 0);
        all = rows.unfold();
        Check.due("true or true and false", rows.truth(all), true);
    }
}
