/** Promise 6: node; and what each kind of leaf asks (promise 12). */
final class NodesTest {
    public static void main(String[] args) {
        numbers();
        outside();
        none();
        noRoom();
        relations();
        classes();
        classesOfNumbers();
        signs();
        Check.end();
    }

    private static ConditionRows withFields() {
        ConditionRows rows = new ConditionRows(0);
        Check.text(rows, "A");
        Check.digits(rows, "12");
        Check.binary(rows, 2, 12);
        return rows;
    }

    private static void numbers() {
        ConditionRows rows = withFields();
        rows.name88(1, 0, 1);
        int due = 1;
        for (int op = 0; op <= 5; op++) {
            Check.due("relation " + op, rows.node(op, op % 3, (op + 1) % 3), due++);
        }
        for (int kind = 0; kind <= 3; kind++) {
            Check.due("class " + kind, rows.node(6, kind % 3, kind), due++);
        }
        for (int sign = -1; sign <= 1; sign++) {
            Check.due("sign " + sign, rows.node(7, 2, sign), due++);
        }
        Check.due("a name", rows.node(8, 1, Integer.MIN_VALUE), due++);
        Check.due("switch 0", rows.node(9, 0, Integer.MAX_VALUE), due++);
        Check.due("switch 15", rows.node(9, 15, -9), due++);
        Check.due("not", rows.node(10, due - 1, 999), due++);
        Check.due("and", rows.node(11, 1, due - 1), due++);
        Check.due("or", rows.node(12, due - 1, 1), due++);
        Check.due("count(1)", rows.count(1), due - 1);
        Check.due("what is not needed is not looked at", rows.truth(17), true);
    }

    private static void outside() {
        ConditionRows rows = withFields();
        Check.due("op -1", rows.node(-1, 0, 0), -4);
        Check.due("op 13", rows.node(13, 0, 0), -4);
        Check.due("class -1", rows.node(6, 0, -1), -4);
        Check.due("class 4", rows.node(6, 0, 4), -4);
        Check.due("sign -2", rows.node(7, 1, -2), -4);
        Check.due("sign 2", rows.node(7, 1, 2), -4);
        Check.due("switch -1", rows.node(9, -1, 0), -4);
        Check.due("switch 16", rows.node(9, 16, 0), -4);
        Check.due("-4 ahead of -2, op", rows.node(13, 9, 9), -4);
        Check.due("-4 ahead of -2, class", rows.node(6, 9, 4), -4);
        Check.due("-4 ahead of -2, sign", rows.node(7, 9, 2), -4);
        Check.due("-4 ahead of -2, sign of a text", rows.node(7, 0, 2), -4);
        Check.due("what is refused makes none", rows.count(1), 0);
    }

    private static void none() {
        ConditionRows rows = withFields();
        for (int op = 0; op <= 5; op++) {
            Check.due("no left field", rows.node(op, 3, 0), -2);
            Check.due("no right field", rows.node(op, 0, 3), -2);
            Check.due("left field -1", rows.node(op, -1, 0), -2);
            Check.due("right field -1", rows.node(op, 0, -1), -2);
        }
        Check.due("class of no field", rows.node(6, 3, 0), -2);
        Check.due("class of field -1", rows.node(6, -1, 0), -2);
        Check.due("sign of no field", rows.node(7, 3, 0), -2);
        Check.due("sign of a text", rows.node(7, 0, 0), -2);
        Check.due("name 0", rows.node(8, 0, 0), -2);
        Check.due("name 1", rows.node(8, 1, 0), -2);
        Check.due("not node 1", rows.node(10, 1, 0), -2);
        rows.node(9, 0, 0);
        Check.due("not node 0", rows.node(10, 0, 0), -2);
        Check.due("not itself", rows.node(10, 2, 0), -2);
        for (int op = 11; op <= 12; op++) {
            Check.due("no left node", rows.node(op, 2, 1), -2);
            Check.due("no right node", rows.node(op, 1, 2), -2);
            Check.due("left node 0", rows.node(op, 0, 1), -2);
            Check.due("right node -1", rows.node(op, 1, -1), -2);
        }
        Check.due("what is refused makes none", rows.count(1), 1);
    }

    private static void noRoom() {
        ConditionRows rows = withFields();
        for (int number = 1; number <= 200; number++) {
            Check.due("node " + number, rows.node(9, number % 16, 0), number);
        }
        Check.due("a node too many", rows.node(9, 0, 0), ConditionRows.NONE);
        Check.due("-4 ahead of no room", rows.node(9, 16, 0), -4);
        Check.due("-2 ahead of no room", rows.node(10, 201, 0), -2);
        Check.due("count(1)", rows.count(1), 200);
        Check.due("node 200 is there", rows.truth(200), false);
    }

    private static void relations() {
        ConditionRows rows = new ConditionRows(0);
        int[] fields = {Check.digits(rows, "4"), Check.digits(rows, "5"), Check.text(rows, "5")};
        boolean[][] due = {
            {false, true, false},
            {true, false, false},
            {false, false, true},
            {true, true, false},
            {false, true, true},
            {true, false, true},
        };
        for (int op = 0; op <= 5; op++) {
            Check.due("4 and 5 by " + op, rows.truth(rows.node(op, fields[0], fields[1])), due[op][0]);
            Check.due("5 and 5 by " + op, rows.truth(rows.node(op, fields[1], fields[2])), due[op][1]);
            Check.due("5 and 4 by " + op, rows.truth(rows.node(op, fields[2], fields[0])), due[op][2]);
        }
    }

    private static void dueClasses(ConditionRows rows, int field, String due) {
        for (int kind = 0; kind <= 3; kind++) {
            boolean want = due.charAt(kind) == '1';
            Check.due("class " + kind + " of field " + field + ", " + due,
                rows.truth(rows.node(6, field, kind)), want);
        }
    }

    private static void classes() {
        ConditionRows rows = new ConditionRows(0);
        dueClasses(rows, Check.text(rows, "0918"), "1000");
        dueClasses(rows, Check.text(rows, "09 8"), "0000");
        dueClasses(rows, Check.text(rows, "/"), "0000");
        dueClasses(rows, Check.text(rows, ":"), "0000");
        dueClasses(rows, Check.text(rows, "p"), "0101");
        dueClasses(rows, Check.text(rows, "AM Z"), "0110");
        dueClasses(rows, Check.text(rows, "am z"), "0101");
        dueClasses(rows, Check.text(rows, "aZ b"), "0100");
        dueClasses(rows, Check.text(rows, "    "), "0111");
        dueClasses(rows, Check.text(rows, "@"), "0000");
        dueClasses(rows, Check.text(rows, "["), "0000");
        dueClasses(rows, Check.text(rows, "`"), "0000");
        dueClasses(rows, Check.text(rows, "{"), "0000");
        dueClasses(rows, Check.text(rows, "A1"), "0000");
        dueClasses(rows, Check.text(rows, "1A"), "0000");
        dueClasses(rows, Check.text(rows, "\u00c1"), "0000");
    }

    private static void classesOfNumbers() {
        ConditionRows rows = new ConditionRows(0);
        dueClasses(rows, Check.digits(rows, "12"), "1000");
        dueClasses(rows, Check.digits(rows, "1p"), "1000");
        dueClasses(rows, Check.digits(rows, "p"), "1101");
        dueClasses(rows, Check.digits(rows, "AB"), "0110");
        dueClasses(rows, Check.digits(rows, "p1"), "0000");
        dueClasses(rows, Check.digits(rows, "a "), "0101");
        dueClasses(rows, Check.binary(rows, 2, 0), "1000");
        dueClasses(rows, Check.binary(rows, 2, 'A' * 256 + 'b'), "1100");
        dueClasses(rows, Check.binary(rows, 2, -1), "1000");
        dueClasses(rows, Check.binary(rows, 1, 32), "1111");
    }

    private static void dueSigns(ConditionRows rows, int field, int sign) {
        for (int b = -1; b <= 1; b++) {
            Check.due("sign " + b + " of field " + field, rows.truth(rows.node(7, field, b)), b == sign);
        }
    }

    private static void signs() {
        ConditionRows rows = new ConditionRows(0);
        dueSigns(rows, Check.digits(rows, "01"), 1);
        dueSigns(rows, Check.digits(rows, "00"), 0);
        dueSigns(rows, Check.digits(rows, "0p"), 0);
        dueSigns(rows, Check.digits(rows, "0q"), -1);
        dueSigns(rows, Check.digits(rows, "1p"), -1);
        dueSigns(rows, Check.binary(rows, 8, 1), 1);
        dueSigns(rows, Check.binary(rows, 8, 1L << 40), 1);
        dueSigns(rows, Check.binary(rows, 3, 0), 0);
        dueSigns(rows, Check.binary(rows, 1, 255), -1);
        dueSigns(rows, Check.binary(rows, 8, Long.MIN_VALUE), -1);
        int scaled = Check.digits(rows, "1");
        rows.scale(scaled, 9);
        dueSigns(rows, scaled, 1);
    }
}
