/** The use that README.md shows, line by line, answers what README.md says. */
final class ReadmeTest {
    public static void main(String[] args) {
        ConditionRows rows = new ConditionRows(0);
        int age = rows.field(2, 1);
        Check.due("age", age, 0);
        int limit = rows.field(1, 2);
        Check.due("limit", limit, 1);
        Check.due("age is 21", rows.octet(age, 0, 21), 1);
        Check.due("limit is 1?", rows.octet(limit, 0, '1'), 1);
        Check.due("limit is 18", rows.octet(limit, 1, '8'), 1);
        Check.due("21 with 18", rows.compare(age, limit), 1);
        conditions(rows, age, limit);
        row(rows, age, limit);
        Check.due("no such field", rows.octet(2, 0, 0), -2);
        Check.due("outside", rows.octet(age, 1, 0), -4);
        Check.end();
    }

    private static void conditions(ConditionRows rows, int age, int limit) {
        int adult = rows.node(4, age, limit);
        Check.due("adult", adult, 1);
        int teens = rows.name88(age, 13, 19);
        Check.due("teens", teens, 1);
        int isTeen = rows.node(8, teens, 0);
        Check.due("isTeen", isTeen, 2);
        int both = rows.node(11, adult, isTeen);
        Check.due("both", both, 3);
        Check.due("truth of both", rows.truth(both), false);
        Check.due("leaves", rows.count(4), 2);
        Check.due("first leaf", rows.asked(0), adult);
        Check.due("second leaf", rows.asked(1), isTeen);
    }

    private static void row(ConditionRows rows, int age, int limit) {
        Check.due("age > limit", rows.short0(age, 2, limit), 1);
        Check.due("or not > age", rows.more(1, true, ConditionRows.NONE, age), 2);
        int all = rows.unfold();
        Check.due("all", all, 7);
        Check.due("truth of all", rows.truth(all), true);
        Check.due("short testing", rows.count(4), 1);
    }
}
