/** The edges of promises 9 to 11: rows that begin, go on, and are unfolded. */
final class RowEdgesTest {
    private static final int LEAST = Integer.MIN_VALUE;
    private static final int MOST = Integer.MAX_VALUE;
    private static final int NONE = ConditionRows.NONE;
    // What each op says of below, the same, above.
    private static final boolean[][] TRUTHS = {
        {false, true, false}, {true, false, false}, {false, false, true},
        {true, true, false}, {false, true, true}, {true, false, true},
    };

    public static void main(String[] args) {
        short0Outside();
        short0Missing();
        short0MissingAndOutside();
        short0BeginsAnew();
        short0AfterAFullRow();
        moreWithoutARow();
        moreOutside();
        moreFull();
        firstOpIsCarriedOn();
        eachOpTurned();
        turnedAloneIsNotCarried();
        noRow();
        emptyAndFullRoom();
        roomForEachLength();
        roomForNots();
        allAnd();
        allOr();
        groupsAtBothEnds();
        eachMixOfFive();
        rowOfBadFields();
        Check.end();
    }

    // Field 0 is the subject; field n has the value n.
    private static ConditionRows withFields(int fields) {
        ConditionRows rows = new ConditionRows(1);
        for (int i = 0; i < fields; i++) {
            Check.binary(rows, 1, i);
        }
        return rows;
    }

    private static void short0Outside() {
        ConditionRows rows = withFields(2);
        for (int op : new int[] {LEAST, -2, -1, 6, 7, 12, 256, MOST}) {
            Check.due("short0 by " + op, rows.short0(0, op, 1), -4);
            Check.due("no row", rows.count(3), 0);
        }
        for (int op = 0; op <= 5; op++) {
            Check.due("short0 by " + op, rows.short0(0, op, 1), 1);
            Check.due("a row of one", rows.count(3), 1);
        }
        for (int op : new int[] {LEAST, -1, 6, MOST}) {
            Check.due("short0 by " + op, rows.short0(1, op, 0), -4);
        }
        Check.due("the row is as it was", rows.unfold(), 1);
        Check.due("0 not = 1", rows.truth(1), true);
    }

    private static void short0Missing() {
        ConditionRows empty = new ConditionRows(0);
        Check.due("no fields at all", empty.short0(0, 0, 0), -2);
        ConditionRows rows = withFields(2);
        for (int none : new int[] {LEAST, -1, 2, 39, 40, MOST}) {
            Check.due("subject " + none, rows.short0(none, 0, 1), -2);
            Check.due("object " + none, rows.short0(0, 0, none), -2);
            Check.due("both " + none, rows.short0(none, 0, none), -2);
        }
        Check.due("no row", rows.count(3), 0);
        Check.due("the first and the last field", rows.short0(0, 1, 1), 1);
        rows.more(0, false, NONE, 1);
        Check.due("a refused one", rows.short0(2, 0, 1), -2);
        Check.due("leaves the row", rows.count(3), 2);
        rows.unfold();
        Check.due("0 < 1 and 0 < 1", rows.truth(3), true);
    }

    // Terms' order: promise 9 names -4 first, but does not put it ahead as promise 6 does.
    private static void short0MissingAndOutside() {
        ConditionRows rows = withFields(2);
        for (int op : new int[] {LEAST, -1, 6, MOST}) {
            Check.due("no subject, op " + op, rows.short0(2, op, 1), -2);
            Check.due("no object, op " + op, rows.short0(0, op, 2), -2);
        }
        Check.due("no row", rows.count(3), 0);
    }

    private static void short0BeginsAnew() {
        ConditionRows rows = withFields(4);
        rows.short0(1, 2, 0);
        rows.more(1, true, NONE, 2);
        Check.due("a new row", rows.short0(3, 4, 3), 1);
        Check.due("what there was is gone", rows.count(3), 1);
        Check.due("it goes on from there", rows.more(0, false, NONE, 3), 2);
        Check.due("no not, one and", rows.unfold(), 3);
        Check.due("3 >= 3 and 3 >= 3", rows.truth(3), true);
        rows.octet(3, 0, 99);
        Check.due("of the new subject", rows.truth(3), true);
        Check.dueLeaves("three nodes in all", rows, 1, 2);
    }

    private static void short0AfterAFullRow() {
        ConditionRows rows = withFields(2);
        rows.short0(0, 0, 1);
        for (int has = 2; has <= 20; has++) {
            rows.more(1, true, NONE, 1);
        }
        Check.due("the 21st", rows.more(0, false, 0, 0), NONE);
        Check.due("a new row has room", rows.short0(0, 1, 1), 1);
        Check.due("and goes on", rows.more(0, false, NONE, 1), 2);
        Check.due("three nodes", rows.unfold(), 3);
        Check.due("no more", rows.count(1), 3);
        Check.due("0 < 1 and 0 < 1", rows.truth(3), true);
    }

    private static void moreWithoutARow() {
        ConditionRows empty = new ConditionRows(0);
        Check.due("no row, no fields", empty.more(0, false, 0, 0), -4);
        ConditionRows rows = withFields(2);
        Check.due("no row yet", rows.more(0, false, 0, 1), -4);
        Check.due("no row, op NONE", rows.more(1, true, NONE, 1), -4);
        Check.due("no row ahead of no field", rows.more(0, false, 0, 2), -4);
        Check.due("a refused row is none", rows.short0(0, 6, 1), -4);
        Check.due("no row still", rows.more(0, false, 0, 1), -4);
        Check.due("none was begun", rows.count(3), 0);
        rows.short0(0, 0, 1);
        rows.unfold();
        Check.due("an unfolded row is gone", rows.more(0, false, 0, 1), -4);
        Check.due("none was begun", rows.count(3), 0);
        Check.due("nothing to unfold", rows.unfold(), 0);
    }

    private static void moreOutside() {
        ConditionRows rows = withFields(2);
        rows.short0(0, 1, 1);
        for (int with : new int[] {LEAST, -1, 2, 3, 256, MOST}) {
            Check.due("with " + with, rows.more(with, false, 0, 1), -4);
            Check.due("with " + with + ", op NONE", rows.more(with, true, NONE, 1), -4);
            Check.due("-2 ahead of -4", rows.more(with, false, 0, 2), -2);
        }
        for (int op : new int[] {LEAST, -4, -2, 6, 7, 255, MOST}) {
            Check.due("op " + op, rows.more(0, false, op, 1), -4);
            Check.due("not op " + op, rows.more(1, true, op, 1), -4);
            Check.due("-2 ahead of -4", rows.more(0, false, op, 2), -2);
        }
        for (int none : new int[] {LEAST, -1, 2, 39, 40, MOST}) {
            Check.due("object " + none, rows.more(0, false, 0, none), -2);
            Check.due("object " + none + ", op NONE", rows.more(1, true, NONE, none), -2);
        }
        Check.due("the row is as it was", rows.count(3), 1);
        // A refused op is not carried on either.
        Check.due("refused", rows.more(0, false, 2, 2), -2);
        Check.due("refused", rows.more(2, true, 3, 1), -4);
        Check.due("with and, the op before", rows.more(0, false, NONE, 1), 2);
        Check.due("with or, op 0", rows.more(1, false, 0, 0), 3);
        Check.due("with or, op 5", rows.more(1, false, 5, 0), 4);
        Check.due("all of it", rows.unfold(), 7);
        Check.due("0 < 1", rows.truth(1), true);
        Check.due("and < 1", rows.truth(2), true);
        Check.due("or = 0", rows.truth(4), true);
        Check.due("or not = 0", rows.truth(6), false);
    }

    private static void moreFull() {
        ConditionRows rows = withFields(2);
        rows.short0(0, 0, 1);
        for (int has = 2; has <= 20; has++) {
            Check.due("relation " + has, rows.more(has % 2, false, has % 6, has % 2), has);
            Check.due("so many", rows.count(3), has);
        }
        for (int op = NONE; op <= 5; op++) {
            Check.due("the 21st by " + op, rows.more(0, true, op, 1), NONE);
        }
        Check.due("-2 ahead of no room", rows.more(0, false, 0, 2), -2);
        Check.due("-4 ahead of no room, with", rows.more(2, false, 0, 1), -4);
        Check.due("-4 ahead of no room, op", rows.more(0, false, 6, 1), -4);
        Check.due("20 still", rows.count(3), 20);
        Check.due("39 nodes", rows.unfold(), 39);
        Check.due("39 nodes in all", rows.count(1), 39);
    }

    private static void dueOp(ConditionRows rows, int node, int op) {
        for (int value = 0; value <= 2; value++) {
            rows.octet(0, 0, value);
            Check.due("node " + node + " of " + value + " by " + op, rows.truth(node), TRUTHS[op][value]);
        }
    }

    private static void firstOpIsCarriedOn() {
        for (int op = 0; op <= 5; op++) {
            ConditionRows rows = withFields(2);
            rows.short0(0, op, 1);
            for (int has = 2; has <= 20; has++) {
                rows.more(1, false, NONE, 1);
            }
            rows.unfold();
            dueOp(rows, 1, op);
            dueOp(rows, 2, op);
            dueOp(rows, 38, op);
        }
    }

    private static void eachOpTurned() {
        int[] turned = {5, 4, 3, 2, 1, 0};
        for (int op = 0; op <= 5; op++) {
            for (int first = 0; first <= 5; first++) {
                ConditionRows rows = withFields(2);
                rows.short0(0, first, 1);
                rows.more(1, true, op, 1);
                rows.more(1, false, NONE, 1);
                Check.due("no not is made", rows.unfold(), 5);
                dueOp(rows, 1, first);
                dueOp(rows, 2, turned[op]);
                dueOp(rows, 4, turned[op]);
            }
        }
    }

    private static void turnedAloneIsNotCarried() {
        int[] turned = {5, 4, 3, 2, 1, 0};
        for (int op = 0; op <= 5; op++) {
            ConditionRows rows = withFields(2);
            rows.short0(0, op, 1);
            rows.more(0, true, NONE, 1);
            rows.more(0, true, NONE, 1);
            rows.more(0, false, NONE, 1);
            Check.due("two nots, three ands", rows.unfold(), 9);
            dueOp(rows, 2, op);
            dueOp(rows, 3, turned[op]);
            dueOp(rows, 5, op);
            dueOp(rows, 6, turned[op]);
            dueOp(rows, 8, op);
        }
    }

    private static void noRow() {
        ConditionRows rows = new ConditionRows(0);
        Check.due("no row", rows.unfold(), 0);
        Check.due("no row once more", rows.unfold(), 0);
        Check.due("no node", rows.count(1), 0);
        for (int n = 0; n < 200; n++) {
            rows.node(9, 0, 0);
        }
        Check.due("no row and no room", rows.unfold(), 0);
        Check.due("200 nodes", rows.count(1), 200);
    }

    private static ConditionRows withRoom(int room) {
        ConditionRows rows = withFields(2);
        for (int n = 0; n < 200 - room; n++) {
            rows.node(9, 0, 0);
        }
        return rows;
    }

    private static void emptyAndFullRoom() {
        ConditionRows full = withRoom(0);
        full.short0(0, 0, 1);
        Check.due("not one node has room", full.unfold(), NONE);
        Check.due("the row stays", full.count(3), 1);
        Check.due("200 nodes", full.count(1), 200);
        Check.due("it goes on", full.more(0, false, NONE, 1), 2);
        Check.due("still no room", full.unfold(), NONE);
        ConditionRows last = withRoom(1);
        last.short0(0, 1, 1);
        Check.due("the last node", last.unfold(), 200);
        Check.due("the row is gone", last.count(3), 0);
        Check.due("0 < 1", last.truth(200), true);
    }

    private static void roomForEachLength() {
        for (int length = 1; length <= 20; length++) {
            int needed = 2 * length - 1;
            for (int room = needed - 1; room <= needed; room++) {
                ConditionRows rows = withRoom(room);
                rows.short0(0, 1, 1);
                for (int has = 2; has <= length; has++) {
                    rows.more(has * has % 3 % 2, false, NONE, 1);
                }
                dueUnfolded(rows, length, needed, room);
            }
        }
    }

    private static void roomForNots() {
        for (int nots = 1; nots <= 19; nots++) {
            int needed = 39 + nots;
            for (int room = needed - 1; room <= needed; room++) {
                ConditionRows rows = withRoom(room);
                rows.short0(0, 1, 1);
                for (int has = 2; has <= 20; has++) {
                    // With an op, a not makes no node.
                    boolean alone = has <= nots + 1;
                    rows.more(has % 2, true, alone ? NONE : 4, 1);
                }
                dueUnfolded(rows, 20, needed, room);
            }
        }
    }

    private static void dueUnfolded(ConditionRows rows, int length, int needed, int room) {
        String what = length + " relations, " + needed + " nodes in " + room;
        if (room < needed) {
            Check.due(what, rows.unfold(), NONE);
            Check.due(what + ": no node", rows.count(1), 200 - room);
            Check.due(what + ": the row stays", rows.count(3), length);
            Check.due(what + ": again", rows.unfold(), NONE);
        } else {
            Check.due(what, rows.unfold(), 200);
            Check.due(what + ": all nodes", rows.count(1), 200);
            Check.due(what + ": the row is gone", rows.count(3), 0);
            Check.due(what + ": again", rows.unfold(), 0);
        }
    }

    // 1, 2, and 3, 4, and 5, ...: an and as soon as its right side is there.
    private static void allAnd() {
        ConditionRows rows = withFields(2);
        rows.short0(0, 1, 1);
        for (int has = 2; has <= 20; has++) {
            rows.more(0, false, NONE, 1);
        }
        Check.due("all of it", rows.unfold(), 39);
        for (int node = 3; node <= 39; node += 2) {
            Check.due("all so far", rows.truth(node), true);
            Check.due("its leaves", rows.count(4), (node + 1) / 2);
            Check.due("its last leaf", rows.asked((node - 1) / 2), node - 1);
        }
    }

    private static void allOr() {
        ConditionRows rows = withFields(2);
        rows.short0(0, 2, 1);
        for (int has = 2; has <= 20; has++) {
            rows.more(1, false, NONE, 1);
        }
        Check.due("all of it", rows.unfold(), 39);
        for (int node = 3; node <= 39; node += 2) {
            Check.due("none so far", rows.truth(node), false);
            Check.due("its leaves", rows.count(4), (node + 1) / 2);
            Check.due("its last leaf", rows.asked((node - 1) / 2), node - 1);
        }
    }

    // A or B and C: 1, 2, 3, and 4, or 5. A and B or C: 1, 2, and 3, 4, or 5.
    private static void groupsAtBothEnds() {
        ConditionRows rows = withFields(2);
        rows.short0(0, 1, 1);
        rows.more(1, false, NONE, 1);
        rows.more(0, false, NONE, 1);
        Check.due("the right group is longer", rows.unfold(), 5);
        rows.truth(4);
        Check.dueLeaves("the right group", rows, 2, 3);
        rows.truth(5);
        Check.dueLeaves("the or", rows, 1, 2, 3);
        rows.short0(0, 1, 1);
        rows.more(0, false, NONE, 1);
        rows.more(1, false, NONE, 1);
        Check.due("the left group is longer", rows.unfold(), 10);
        rows.truth(8);
        Check.dueLeaves("the left group", rows, 6, 7);
        rows.truth(10);
        Check.dueLeaves("the or", rows, 6, 7, 9);
    }

    // Every mix of and, or, turned alone, for five relations with any truth.
    private static void eachMixOfFive() {
        for (int mix = 0; mix < 16; mix++) {
            for (int nots = 0; nots < 16; nots++) {
                ConditionRows rows = withFields(7);
                rows.octet(0, 0, 1);
                rows.short0(0, 0, 2);
                for (int n = 0; n < 4; n++) {
                    rows.more(mix >> n & 1, (nots >> n & 1) == 1, NONE, 3 + n);
                }
                Check.due("nodes of a mix", rows.unfold(), 9 + Integer.bitCount(nots));
                for (int truths = 0; truths < 32; truths += 3) {
                    dueMix(rows, mix, nots, truths);
                }
            }
        }
    }

    private static void dueMix(ConditionRows rows, int mix, int nots, int truths) {
        for (int n = 0; n < 5; n++) {
            rows.octet(2 + n, 0, truths >> n & 1);
        }
        boolean groups = false;
        boolean group = (truths & 1) == 1;
        for (int n = 0; n < 4; n++) {
            boolean relation = (truths >> n + 1 & 1) != (nots >> n & 1);
            if ((mix >> n & 1) == 1) {
                groups |= group;
                group = relation;
            } else {
                group &= relation;
            }
        }
        Check.due("mix " + mix + ", nots " + nots + ", truths " + truths,
            rows.truth(9 + Integer.bitCount(nots)), groups || group);
    }

    // What a row's fields hold is looked at when it is tested, not before.
    private static void rowOfBadFields() {
        ConditionRows rows = new ConditionRows(0);
        int bad = Check.digits(rows, "A");
        Check.due("a bad subject", rows.short0(bad, 0, bad), 1);
        Check.due("a bad object", rows.more(0, true, NONE, bad), 2);
        Check.due("unfolded", rows.unfold(), 4);
        Check.due("a fault when tested", Check.thrownByTruth(rows, 4), Check.STATE);
        Check.dueLeaves("at its first leaf", rows, 1);
    }
}
