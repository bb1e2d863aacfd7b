/** Promises 14 and 16: switchOn and count. */
final class SwitchesAndCountsTest {
    public static void main(String[] args) {
        switches();
        counts();
        Check.end();
    }

    private static void switches() {
        ConditionRows rows = new ConditionRows(0);
        for (int n = 0; n < 16; n++) {
            Check.due("it was off", rows.switchOn(n, true), 0);
            Check.due("it was on", rows.switchOn(n, true), 1);
            Check.due("so many are on", rows.count(5), n + 1);
            Check.due("a node of it", rows.truth(rows.node(9, n, 0)), true);
        }
        Check.due("switch -1", rows.switchOn(-1, false), -4);
        Check.due("switch 16", rows.switchOn(16, false), -4);
        Check.due("what is refused changes nothing", rows.count(5), 16);
        Check.due("off again", rows.switchOn(7, false), 1);
        Check.due("it is off", rows.switchOn(7, false), 0);
        Check.due("one less is on", rows.count(5), 15);
        Check.due("its node", rows.truth(8), false);
        Check.due("another node", rows.truth(9), true);
    }

    private static void dueCounts(ConditionRows rows, int... counts) {
        for (int what = 0; what < counts.length; what++) {
            Check.due("count(" + what + ")", rows.count(what), counts[what]);
        }
        Check.due("count(-1)", rows.count(-1), ConditionRows.NONE);
        Check.due("count(6)", rows.count(6), ConditionRows.NONE);
    }

    private static void counts() {
        ConditionRows rows = new ConditionRows(0);
        dueCounts(rows, 0, 0, 0, 0, 0, 0);
        rows.field(0, 1);
        rows.field(1, 1);
        rows.field(2, 1);
        dueCounts(rows, 3, 0, 0, 0, 0, 0);
        rows.node(0, 0, 0);
        rows.node(0, 1, 1);
        dueCounts(rows, 3, 2, 0, 0, 0, 0);
        rows.name88(0, 0, 1);
        dueCounts(rows, 3, 2, 1, 0, 0, 0);
        rows.short0(0, 0, 0);
        rows.more(0, true, -1, 1);
        dueCounts(rows, 3, 2, 1, 2, 0, 0);
        rows.truth(1);
        dueCounts(rows, 3, 2, 1, 2, 1, 0);
        rows.switchOn(3, true);
        rows.switchOn(4, true);
        dueCounts(rows, 3, 2, 1, 2, 1, 2);
        rows.unfold();
        dueCounts(rows, 3, 6, 1, 0, 1, 2);
    }
}
