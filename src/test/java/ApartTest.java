/** What a call does not speak of, it leaves alone: the row, the latest test, another object. */
final class ApartTest {
    public static void main(String[] args) {
        rowLivesThroughOtherCalls();
        latestTestLivesThroughOtherCalls();
        objectsAreApart();
        lastCall();
        Check.end();
    }

    // Field 0 is 0, field 1 is 1, field 2 a text; node 1 is 0 < 1, name 1 is field 0 from 0 to 0.
    private static ConditionRows furnished() {
        ConditionRows rows = new ConditionRows(0);
        Check.binary(rows, 1, 0);
        Check.binary(rows, 1, 1);
        Check.text(rows, "A");
        rows.node(1, 0, 1);
        rows.name88(0, 0, 0);
        return rows;
    }

    /** One call of each method that has nothing to do with rows or leaves. */
    private static Check.Call[] otherCalls() {
        return new Check.Call[] {
            rows -> rows.field(0, 4), rows -> rows.octet(2, 0, 'B'), rows -> rows.scale(1, 2),
            rows -> rows.weight('A', 7), rows -> rows.node(6, 2, 1), rows -> rows.name88(1, -1, 1),
            rows -> rows.range(1, 5, 6), rows -> rows.switchOn(3, true), rows -> rows.compare(0, 2),
            rows -> rows.compare(0, 1), rows -> rows.compare(0, 40), rows -> rows.count(0),
            rows -> rows.asked(0), rows -> rows.truth(0) ? 1 : 0,
        };
    }

    private static void rowLivesThroughOtherCalls() {
        ConditionRows rows = furnished();
        rows.short0(0, 1, 1);
        int has = 1;
        for (Check.Call call : otherCalls()) {
            Check.answer(rows, call);
            Check.due("the row stays", rows.count(3), has);
            has++;
            Check.due("the row goes on", rows.more(0, false, ConditionRows.NONE, 1), has);
        }
        rows.truth(1);
        Check.due("the row stays after a test", rows.count(3), has);
        int made = rows.count(1);
        Check.due("all of the row", rows.unfold(), made + 2 * has - 1);
        Check.due("0 < 1, each time", rows.truth(made + 2 * has - 1), true);
        Check.due("as many leaves", rows.count(4), has);
    }

    private static void latestTestLivesThroughOtherCalls() {
        ConditionRows rows = furnished();
        int named = rows.node(8, 1, 0);
        int both = rows.node(11, 1, named);
        rows.truth(both);
        for (Check.Call call : otherCalls()) {
            Check.answer(rows, call);
            Check.dueLeaves("after another call", rows, 1, named);
        }
        rows.short0(0, 1, 1);
        rows.more(1, true, 0, 1);
        Check.dueLeaves("a row", rows, 1, named);
        rows.unfold();
        Check.dueLeaves("new nodes", rows, 1, named);
    }

    private static void objectsAreApart() {
        ConditionRows first = furnished();
        ConditionRows second = new ConditionRows(0);
        for (int what = 0; what <= 5; what++) {
            Check.due("a new object beside a used one: " + what, second.count(what), 0);
        }
        first.switchOn(0, true);
        first.weight('A', 200);
        first.short0(0, 0, 1);
        first.truth(1);
        for (int what = 0; what <= 5; what++) {
            Check.due("still as new: " + what, second.count(what), 0);
        }
        Check.due("its own weights", second.weight('A', 3), 'A');
        Check.due("the other's weights", first.weight('A', 65), 200);
        Check.due("its own fields", second.field(1, 1), 0);
        Check.due("the other's category", first.scale(2, 0), -2);
        Check.due("the other's row", first.count(3), 1);
    }

    // The document allows 512 calls: the last one still counts.
    private static void lastCall() {
        ConditionRows rows = new ConditionRows(1);
        for (int call = 1; call <= 500; call++) {
            Check.due("call " + call, rows.switchOn(call % 16, true), call <= 16 ? 0 : 1);
        }
        Check.due("call 501", rows.field(2, 1), 0);
        Check.due("call 502", rows.octet(0, 0, 255), 1);
        Check.due("call 503", rows.node(7, 0, -1), 1);
        Check.due("call 504", rows.name88(0, -1, -1), 1);
        Check.due("call 505", rows.node(8, 1, 0), 2);
        Check.due("call 506", rows.short0(0, 0, 0), 1);
        Check.due("call 507", rows.more(0, true, 5, 0), 2);
        Check.due("call 508", rows.unfold(), 5);
        Check.due("call 509", rows.node(11, 2, 5), 6);
        Check.due("call 510", rows.truth(6), true);
        Check.due("call 511", rows.asked(2), 4);
        Check.due("call 512", rows.count(4), 3);
    }
}
