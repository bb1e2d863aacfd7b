/** The edges of Terms' TESTING and of promises 12, 13, 14 and 16. */
final class TestingEdgesTest {
    private static final int LEAST = Integer.MIN_VALUE;
    private static final int MOST = Integer.MAX_VALUE;

    public static void main(String[] args) {
        missing();
        eachLeafIsNoted();
        settled(0);
        settled(1);
        settledDeepInside();
        bTestedBefore();
        testedOnce();
        eachCallAnew();
        faultKinds();
        faultOnEitherSide();
        faultThatIsNotMet();
        faultInASharedNode();
        faultThenAnother();
        leavesOfTheLatestTest();
        asked();
        longestRowOfLeaves(0);
        longestRowOfLeaves(1);
        longestChains(0);
        longestChains(1);
        switchNumbers();
        counts();
        Check.end();
    }

    private static void missing() {
        ConditionRows empty = new ConditionRows(0);
        for (int node : new int[] {LEAST, -1, 0, 1, 200, 201, MOST}) {
            Check.due("no nodes: " + node, Check.thrownByTruth(empty, node), Check.ARGUMENT);
        }
        Check.dueLeaves("no test", empty);
        ConditionRows rows = new ConditionRows(0);
        rows.node(9, 0, 0);
        rows.node(9, 1, 0);
        rows.truth(2);
        for (int node : new int[] {LEAST, -1, 0, 3, 200, 201, MOST}) {
            Check.due("node " + node, Check.thrownByTruth(rows, node), Check.ARGUMENT);
            Check.dueLeaves("the test before is the latest", rows, 2);
        }
        Check.due("the first", rows.truth(1), false);
        Check.due("the last", rows.truth(2), false);
        for (int n = 3; n <= 200; n++) {
            rows.node(10, 1, 0);
        }
        Check.due("the last there can be", rows.truth(200), true);
        Check.due("behind it", Check.thrownByTruth(rows, 201), Check.ARGUMENT);
        Check.dueLeaves("the test before is the latest", rows, 1);
    }

    private static void eachLeafIsNoted() {
        ConditionRows rows = new ConditionRows(1);
        int digits = Check.digits(rows, "1");
        rows.name88(digits, 1, 1);
        for (int op = 0; op <= 9; op++) {
            rows.node(op, op == 8 ? 1 : 0, 0);
            rows.truth(op + 1);
            Check.dueLeaves("a leaf by " + op, rows, op + 1);
        }
        for (int op = 10; op <= 12; op++) {
            int node = rows.node(op, 9, 10);
            rows.truth(node);
            if (op == 10) {
                Check.dueLeaves("a not is none", rows, 9);
            } else {
                Check.dueLeaves("an and, an or is none", rows, 9, 10);
            }
        }
    }

    private static void dueTest(ConditionRows rows, String what, int node, boolean truth, int... leaves) {
        Check.due(what, rows.truth(node), truth);
        Check.dueLeaves(what, rows, leaves);
    }

    // Nodes 1 off, 2 on; each pair of them by and, by or.
    private static void settled(int order) {
        ConditionRows rows = new ConditionRows(order);
        rows.switchOn(1, true);
        rows.node(9, 0, 0);
        rows.node(9, 1, 0);
        rows.node(9, 2, 0);
        rows.node(10, 3, 0);
        int and = rows.node(11, 1, 4);
        int or = rows.node(12, 2, 4);
        if (order == 0) {
            dueTest(rows, "off settles an and", and, false, 1);
            dueTest(rows, "on settles an or", or, true, 2);
        } else {
            dueTest(rows, "an and tests both", and, false, 1, 3);
            dueTest(rows, "an or tests both", or, true, 2, 3);
        }
        dueTest(rows, "on does not settle an and", rows.node(11, 2, 4), true, 2, 3);
        dueTest(rows, "off does not settle an or", rows.node(12, 1, 4), true, 1, 3);
        dueTest(rows, "b alone does not settle an and", rows.node(11, 2, 1), false, 2, 1);
        dueTest(rows, "b alone settles no or", rows.node(12, 1, 2), true, 1, 2);
        dueTest(rows, "and of on, on", rows.node(11, 4, 2), true, 3, 2);
        dueTest(rows, "or of off, off", rows.node(12, 3, 1), false, 3, 1);
    }

    // (1 and 2) or (3 and 4): by short testing only what is not settled yet.
    private static void settledDeepInside() {
        for (int bits = 0; bits < 16; bits++) {
            ConditionRows shorter = new ConditionRows(0);
            ConditionRows whole = new ConditionRows(1);
            for (ConditionRows rows : new ConditionRows[] {shorter, whole}) {
                for (int n = 0; n < 4; n++) {
                    rows.node(9, n, 0);
                    rows.switchOn(n, (bits >> n & 1) == 1);
                }
                rows.node(11, 1, 2);
                rows.node(11, 3, 4);
                rows.node(12, 5, 6);
            }
            boolean left = (bits & 3) == 3;
            boolean right = (bits & 12) == 12;
            dueTest(whole, "whole, switches " + bits, 7, left || right, 1, 2, 3, 4);
            int[] first = (bits & 1) == 1 ? new int[] {1, 2} : new int[] {1};
            int[] second = left ? new int[0] : (bits & 4) == 4 ? new int[] {3, 4} : new int[] {3};
            int[] both = java.util.Arrays.copyOf(first, first.length + second.length);
            System.arraycopy(second, 0, both, first.length, second.length);
            dueTest(shorter, "short, switches " + bits, 7, left || right, both);
        }
    }

    // That b was tested elsewhere changes neither the truth nor the leaves.
    private static void bTestedBefore() {
        for (int order = 0; order <= 1; order++) {
            ConditionRows rows = new ConditionRows(order);
            rows.switchOn(1, true);
            rows.node(9, 0, 0);
            rows.node(9, 1, 0);
            rows.node(12, 1, 2);
            dueTest(rows, "a settles, b was tested", rows.node(11, 3, rows.node(11, 1, 2)), false, 1, 2);
            dueTest(rows, "b was tested", rows.node(11, 3, rows.node(12, 1, 2)), true, 1, 2);
            dueTest(rows, "both were tested", rows.node(11, 3, rows.node(11, 2, 1)), false, 1, 2);
        }
    }

    private static void testedOnce() {
        for (int order = 0; order <= 1; order++) {
            ConditionRows rows = new ConditionRows(order);
            rows.switchOn(0, true);
            rows.node(9, 0, 0);
            rows.node(11, 1, 1);
            dueTest(rows, "a node and itself", 2, true, 1);
            rows.node(12, 2, 2);
            rows.node(10, 3, 0);
            dueTest(rows, "a node and its not", rows.node(11, 3, 4), false, 1);
            // The same switch by another node is another leaf.
            rows.node(9, 0, 0);
            dueTest(rows, "two nodes of one switch", rows.node(11, 1, 6), true, 1, 6);
        }
    }

    private static void eachCallAnew() {
        ConditionRows rows = new ConditionRows(0);
        rows.node(9, 0, 0);
        rows.node(10, 1, 0);
        for (int n = 0; n < 4; n++) {
            boolean on = n % 2 == 1;
            rows.switchOn(0, on);
            dueTest(rows, "the switch", 1, on, 1);
            dueTest(rows, "its not", 2, !on, 1);
        }
    }

    private static void dueFault(String what, ConditionRows rows, int node, int... leaves) {
        Check.due(what, Check.thrownByTruth(rows, node), Check.STATE);
        Check.dueLeaves(what, rows, leaves);
    }

    private static void faultKinds() {
        for (int order = 0; order <= 1; order++) {
            ConditionRows rows = new ConditionRows(order);
            int bad = Check.digits(rows, "1o");
            int good = Check.binary(rows, 1, 1);
            int text = Check.text(rows, "1o");
            rows.name88(bad, Long.MIN_VALUE, Long.MAX_VALUE);
            for (int op = 0; op <= 5; op++) {
                int left = rows.node(op, bad, good);
                dueFault("bad left by " + op, rows, left, left);
                int right = rows.node(op, text, bad);
                dueFault("bad right by " + op, rows, right, right);
            }
            for (int sign = -1; sign <= 1; sign++) {
                int node = rows.node(7, bad, sign);
                dueFault("bad sign " + sign, rows, node, node);
            }
            int named = rows.node(8, 1, 0);
            dueFault("bad name", rows, named, named);
            for (int kind = 0; kind <= 3; kind++) {
                int node = rows.node(6, bad, kind);
                dueTest(rows, "no fault of class " + kind, node, false, node);
            }
            rows.octet(bad, 1, 112);
            dueTest(rows, "mended", named, true, named);
        }
    }

    // Nodes 1 off, 2 on, 3 a fault.
    private static ConditionRows withFault(int order) {
        ConditionRows rows = new ConditionRows(order);
        Check.digits(rows, ":");
        rows.switchOn(1, true);
        rows.node(9, 0, 0);
        rows.node(9, 1, 0);
        rows.node(7, 0, 0);
        return rows;
    }

    private static void faultOnEitherSide() {
        for (int order = 0; order <= 1; order++) {
            ConditionRows rows = withFault(order);
            dueFault("not a fault", rows, rows.node(10, 3, 0), 3);
            for (int op = 11; op <= 12; op++) {
                dueFault("a fault first", rows, rows.node(op, 3, 1), 3);
                dueFault("a fault first", rows, rows.node(op, 3, 2), 3);
                dueFault("a fault twice", rows, rows.node(op, 3, 3), 3);
            }
            dueFault("on and a fault", rows, rows.node(11, 2, 3), 2, 3);
            dueFault("off or a fault", rows, rows.node(12, 1, 3), 1, 3);
        }
    }

    private static void faultThatIsNotMet() {
        ConditionRows shorter = withFault(0);
        dueTest(shorter, "off and a fault", shorter.node(11, 1, 3), false, 1);
        dueTest(shorter, "on or a fault", shorter.node(12, 2, 3), true, 2);
        ConditionRows whole = withFault(5);
        dueFault("off and a fault", whole, whole.node(11, 1, 3), 1, 3);
        dueFault("on or a fault", whole, whole.node(12, 2, 3), 2, 3);
    }

    // What stands behind the fault is not tested and not noted.
    private static void faultInASharedNode() {
        for (int order = 0; order <= 1; order++) {
            ConditionRows rows = withFault(order);
            rows.node(12, 1, 3);
            rows.node(11, 2, 4);
            dueFault("deep inside", rows, rows.node(12, 5, 4), 2, 1, 3);
            dueFault("ahead of another leaf", rows, rows.node(11, rows.node(11, 5, 1), 2), 2, 1, 3);
        }
    }

    private static void faultThenAnother() {
        ConditionRows rows = withFault(0);
        dueFault("a fault", rows, 3, 3);
        dueTest(rows, "a test behind it", 2, true, 2);
        dueFault("the fault again", rows, 3, 3);
        Check.due("a missing node", Check.thrownByTruth(rows, 99), Check.ARGUMENT);
        Check.dueLeaves("the fault's test is the latest still", rows, 3);
        rows.octet(0, 0, 48);
        dueTest(rows, "mended", 3, true, 3);
    }

    // No call but truth changes what the latest test was.
    private static void leavesOfTheLatestTest() {
        ConditionRows rows = withFault(1);
        rows.node(11, 2, 1);
        rows.truth(4);
        Check.dueLeaves("two leaves", rows, 2, 1);
        rows.octet(0, 0, 49);
        rows.scale(0, 1);
        rows.weight(49, 1);
        rows.node(10, 4, 0);
        rows.name88(0, 1, 1);
        rows.range(1, 2, 2);
        rows.short0(0, 0, 0);
        rows.more(0, false, -1, 0);
        rows.unfold();
        rows.switchOn(0, true);
        rows.compare(0, 0);
        rows.field(0, 1);
        Check.dueLeaves("two leaves still", rows, 2, 1);
        rows.truth(3);
        Check.dueLeaves("one leaf", rows, 3);
    }

    private static void asked() {
        ConditionRows rows = new ConditionRows(1);
        for (int i : new int[] {LEAST, -1, 0, 1, 199, 200, MOST}) {
            Check.due("no test: asked(" + i + ")", rows.asked(i), 0);
        }
        rows.node(9, 0, 0);
        rows.node(9, 1, 0);
        rows.node(12, 2, 1);
        rows.truth(3);
        Check.due("asked(0)", rows.asked(0), 2);
        Check.due("asked(1)", rows.asked(1), 1);
        for (int i : new int[] {LEAST, -2, -1, 2, 3, 199, 200, 256, MOST}) {
            Check.due("asked(" + i + ")", rows.asked(i), 0);
        }
        rows.truth(1);
        Check.due("the second of one", rows.asked(1), 0);
    }

    // 100 leaves and 99 ors: as many leaves as a test can have.
    private static void longestRowOfLeaves(int order) {
        ConditionRows rows = new ConditionRows(order);
        for (int n = 1; n <= 100; n++) {
            rows.node(9, n % 16, 0);
        }
        int all = 1;
        for (int n = 2; n <= 100; n++) {
            all = rows.node(12, all, n);
        }
        Check.due("all off", rows.truth(all), false);
        Check.due("100 leaves", rows.count(4), 100);
        for (int i = 0; i < 100; i++) {
            Check.due("asked(" + i + ")", rows.asked(i), i + 1);
        }
        Check.due("asked(100)", rows.asked(100), 0);
        rows.switchOn(1, true);
        Check.due("the first is on", rows.truth(all), true);
        Check.due("its leaves", rows.count(4), order == 0 ? 1 : 100);
    }

    // As deep as nodes can stand: by not, by the left side, by the right side.
    private static void longestChains(int order) {
        ConditionRows nots = new ConditionRows(order);
        ConditionRows left = new ConditionRows(order);
        ConditionRows right = new ConditionRows(order);
        ConditionRows both = new ConditionRows(order);
        for (ConditionRows rows : new ConditionRows[] {nots, left, right, both}) {
            rows.node(9, 0, 0);
            rows.node(9, 1, 0);
            rows.switchOn(1, true);
        }
        for (int n = 3; n <= 200; n++) {
            nots.node(10, n - 1, 0);
            left.node(11, n - 1, 2);
            right.node(11, 2, n == 3 ? 1 : n - 1);
            both.node(12, n - 1, n - 1);
        }
        dueTest(nots, "198 nots of on", 200, true, 2);
        dueTest(nots, "197 nots of on", 199, false, 2);
        dueTest(left, "on and on, ..", 200, true, 2);
        dueTest(right, "on and (on and (..", 200, false, 2, 1);
        dueTest(both, "each node twice", 200, true, 2);
    }

    private static void switchNumbers() {
        ConditionRows rows = new ConditionRows(0);
        for (int n : new int[] {LEAST, -16, -1, 16, 17, 256, MOST}) {
            Check.due("switch " + n + " on", rows.switchOn(n, true), -4);
            Check.due("switch " + n + " off", rows.switchOn(n, false), -4);
        }
        Check.due("none is on", rows.count(5), 0);
        for (int n = 0; n <= 15; n++) {
            Check.due("was off", rows.switchOn(n, false), 0);
            Check.due("was off still", rows.switchOn(n, true), 0);
            Check.due("was on", rows.switchOn(n, true), 1);
            Check.due("so many are on", rows.count(5), n + 1);
        }
        for (int n : new int[] {LEAST, -1, 16, MOST}) {
            Check.due("switch " + n + " off", rows.switchOn(n, false), -4);
        }
        Check.due("all are on", rows.count(5), 16);
        for (int n = 15; n >= 0; n--) {
            Check.due("was on", rows.switchOn(n, false), 1);
            Check.due("was off", rows.switchOn(n, false), 0);
            Check.due("so many are on", rows.count(5), n);
        }
    }

    // Each count at its empty and at its full, and what is no count.
    private static void counts() {
        ConditionRows rows = new ConditionRows(1);
        for (int what = 0; what <= 5; what++) {
            Check.due("empty: count(" + what + ")", rows.count(what), 0);
        }
        for (int n = 0; n < 40; n++) {
            rows.field(2, 1);
            rows.name88(n, n, n);
        }
        for (int n = 0; n < 16; n++) {
            rows.switchOn(n, true);
            rows.node(9, n, 0);
        }
        for (int n = 17; n <= 200; n++) {
            rows.node(n <= 108 ? 6 : 11, n <= 108 ? 0 : n - 1, n <= 108 ? 0 : n - 108);
        }
        rows.short0(0, 0, 0);
        for (int has = 2; has <= 20; has++) {
            rows.more(0, false, -1, 0);
        }
        rows.truth(200);
        int[] full = {40, 200, 40, 20, 93, 16};
        for (int what = 0; what <= 5; what++) {
            Check.due("full: count(" + what + ")", rows.count(what), full[what]);
        }
        for (int what : new int[] {LEAST, -2, -1, 6, 7, 256, MOST}) {
            Check.due("count(" + what + ")", rows.count(what), ConditionRows.NONE);
        }
    }
}
