/** Promises 12 and 13: truth and asked. */
final class TruthTest {
    public static void main(String[] args) {
        tables(0);
        tables(1);
        refusals();
        shared(0);
        shared(1);
        latest();
        faults(0);
        faults(1);
        faultAhead();
        deep(0);
        deep(1);
        Check.end();
    }

    // Nodes 1, 2 are switches 0, 1; 3 and; 4 or; 5, 6 their nots.
    private static void tables(int order) {
        ConditionRows rows = new ConditionRows(order);
        rows.node(9, 0, 0);
        rows.node(9, 1, 0);
        rows.node(11, 1, 2);
        rows.node(12, 1, 2);
        rows.node(10, 3, 0);
        rows.node(10, 4, 0);
        for (int bits = 0; bits < 4; bits++) {
            boolean a = (bits & 1) != 0;
            boolean b = (bits & 2) != 0;
            String what = "order " + order + ", " + a + ", " + b;
            rows.switchOn(0, a);
            rows.switchOn(1, b);
            Check.due(what + ": and", rows.truth(3), a && b);
            dueParts(what + ": and", rows, order != 0 || a);
            Check.due(what + ": or", rows.truth(4), a || b);
            dueParts(what + ": or", rows, order != 0 || !a);
            Check.due(what + ": not and", rows.truth(5), !(a && b));
            dueParts(what + ": not and", rows, order != 0 || a);
            Check.due(what + ": not or", rows.truth(6), !(a || b));
            dueParts(what + ": not or", rows, order != 0 || !a);
        }
    }

    private static void dueParts(String what, ConditionRows rows, boolean both) {
        if (both) {
            Check.dueLeaves(what, rows, 1, 2);
        } else {
            Check.dueLeaves(what, rows, 1);
        }
    }

    private static void refusals() {
        ConditionRows rows = new ConditionRows(0);
        rows.node(9, 0, 0);
        rows.truth(1);
        for (int node : new int[] {0, -1, 2, 201, Integer.MAX_VALUE, Integer.MIN_VALUE}) {
            Check.due("truth(" + node + ")", Check.thrownByTruth(rows, node), Check.ARGUMENT);
            Check.dueLeaves("the test before stays the latest", rows, 1);
        }
    }

    // What was tested in a call is as it was, and is noted once.
    private static void shared(int order) {
        ConditionRows rows = new ConditionRows(order);
        rows.switchOn(1, true);
        rows.node(9, 1, 0);
        rows.node(9, 2, 0);
        rows.node(12, 2, 1);
        rows.node(11, 3, 1);
        rows.node(11, 4, 3);
        rows.node(11, 5, 2);
        Check.due("shared nodes", rows.truth(6), false);
        Check.dueLeaves("shared nodes", rows, 2, 1);
        rows.node(11, 1, 1);
        Check.due("one node twice", rows.truth(7), true);
        Check.dueLeaves("one node twice", rows, 1);
        rows.switchOn(1, false);
        Check.due("each call tests anew", rows.truth(7), false);
        Check.dueLeaves("each call tests anew", rows, 1);
    }

    private static void latest() {
        ConditionRows rows = new ConditionRows(1);
        rows.node(9, 1, 0);
        rows.node(9, 2, 0);
        rows.node(12, 2, 1);
        Check.dueLeaves("no test", rows);
        rows.truth(3);
        Check.dueLeaves("two leaves", rows, 2, 1);
        rows.truth(1);
        Check.dueLeaves("one leaf", rows, 1);
        Check.due("asked far behind", rows.asked(Integer.MAX_VALUE), 0);
        Check.due("asked far ahead", rows.asked(Integer.MIN_VALUE), 0);
    }

    private static void faults(int order) {
        ConditionRows rows = new ConditionRows(order);
        int bad = Check.digits(rows, "?1");
        int good = Check.digits(rows, "1");
        int text = Check.text(rows, "1");
        int name = rows.name88(bad, 0, 9);
        for (int op = 0; op <= 5; op++) {
            dueFault(rows, rows.node(op, bad, good));
            dueFault(rows, rows.node(op, good, bad));
            dueFault(rows, rows.node(op, text, bad));
        }
        for (int sign = -1; sign <= 1; sign++) {
            dueFault(rows, rows.node(7, bad, sign));
        }
        int named = rows.node(8, name, 0);
        dueFault(rows, named);
        for (int kind = 0; kind <= 3; kind++) {
            Check.due("a class is no fault", rows.truth(rows.node(6, bad, kind)), false);
        }
        int negated = rows.node(10, named, 0);
        Check.due("not a fault", Check.thrownByTruth(rows, negated), Check.STATE);
        Check.dueLeaves("not a fault", rows, named);
        rows.octet(bad, 0, '0');
        Check.due("mended", rows.truth(named), true);
    }

    private static void dueFault(ConditionRows rows, int node) {
        Check.due("a fault of node " + node, Check.thrownByTruth(rows, node), Check.STATE);
        Check.dueLeaves("a fault", rows, node);
    }

    private static void faultAhead() {
        for (int order = 0; order <= 1; order++) {
            ConditionRows rows = new ConditionRows(order);
            int bad = Check.digits(rows, "?1");
            rows.node(9, 0, 0);
            rows.node(7, bad, 0);
            rows.node(9, 1, 0);
            rows.node(12, 1, 2);
            rows.node(12, 4, 3);
            Check.due("a fault in the midst", Check.thrownByTruth(rows, 5), Check.STATE);
            Check.dueLeaves("what was ahead is noted, and the fault", rows, 1, 2);
            rows.switchOn(0, true);
            if (order == 0) {
                Check.due("short testing does not meet it", rows.truth(5), true);
                Check.dueLeaves("short testing", rows, 1);
            } else {
                Check.due("whole testing meets it", Check.thrownByTruth(rows, 5), Check.STATE);
                Check.dueLeaves("whole testing", rows, 1, 2);
            }
            rows.node(11, 2, 1);
            Check.due("a fault at first", Check.thrownByTruth(rows, 6), Check.STATE);
            Check.dueLeaves("a fault at first", rows, 2);
        }
    }

    // 200 nodes, each on the one before, by either side.
    private static void deep(int order) {
        ConditionRows rows = new ConditionRows(order);
        rows.node(9, 0, 0);
        for (int n = 2; n <= 200; n++) {
            rows.node(10 + n % 3, n - 1, n - 1);
        }
        boolean on = false;
        for (int n = 2; n <= 200; n++) {
            on = n % 3 == 0 ? !on : on;
        }
        Check.due("a deep chain", rows.truth(200), on);
        Check.dueLeaves("a deep chain", rows, 1);
        ConditionRows wide = new ConditionRows(order);
        for (int n = 1; n <= 100; n++) {
            wide.node(9, n % 16, 0);
        }
        wide.node(12, 1, 2);
        for (int n = 3; n <= 100; n++) {
            wide.node(12, n, wide.count(1));
        }
        Check.due("a deep row of or", wide.truth(199), false);
        Check.due("its leaves", wide.count(4), 100);
        Check.due("its first leaf", wide.asked(0), 100);
        Check.due("its last leaf", wide.asked(99), 2);
    }
}
