/** The edges of Terms' NODES and of promise 6: which nodes can be made, and what each leaf asks. */
final class NodeEdgesTest {
    private static final int LEAST = Integer.MIN_VALUE;
    private static final int MOST = Integer.MAX_VALUE;

    public static void main(String[] args) {
        ops();
        classNumbers();
        signNumbers();
        switchNumbers();
        partsOfRelations();
        partsOfClassesAndSigns();
        partsOfNames();
        partsOfNodes();
        whatIsNotNeeded();
        outsideAheadOfNoSuch();
        full();
        relationsAtTheirEdges();
        classOfEachByte();
        classAtEachPlace();
        classesOfNumbers();
        signsAtTheirEdges();
        eachSwitch();
        Check.end();
    }

    // A text 0, digits 1, a binary 2, name 1, node 1.
    private static ConditionRows prepared() {
        ConditionRows rows = new ConditionRows(0);
        Check.text(rows, "A");
        Check.digits(rows, "12");
        Check.binary(rows, 2, 12);
        rows.name88(1, 12, 12);
        rows.node(9, 0, 0);
        return rows;
    }

    private static void ops() {
        ConditionRows rows = prepared();
        int made = 1;
        for (int op = 0; op <= 12; op++) {
            made++;
            Check.due("op " + op, rows.node(op, 1, 1), made);
        }
        for (int op : new int[] {LEAST, -256, -2, -1, 13, 14, 16, 256, MOST}) {
            Check.due("op " + op, rows.node(op, 1, 1), -4);
        }
        Check.due("so many nodes", rows.count(1), made);
        Check.due("the next one's number", rows.node(9, 0, 0), made + 1);
    }

    private static void classNumbers() {
        ConditionRows rows = prepared();
        for (int kind = 0; kind <= 3; kind++) {
            Check.due("class " + kind, rows.node(6, 0, kind), 2 + kind);
        }
        for (int kind : new int[] {LEAST, -1, 4, 5, 256, MOST}) {
            Check.due("class " + kind, rows.node(6, 0, kind), -4);
        }
        Check.due("so many nodes", rows.count(1), 5);
    }

    private static void signNumbers() {
        ConditionRows rows = prepared();
        for (int sign = -1; sign <= 1; sign++) {
            Check.due("sign " + sign, rows.node(7, 1, sign), 3 + sign);
        }
        for (int sign : new int[] {LEAST, -2, 2, 3, 255, MOST}) {
            Check.due("sign " + sign, rows.node(7, 1, sign), -4);
        }
        Check.due("so many nodes", rows.count(1), 4);
    }

    private static void switchNumbers() {
        ConditionRows rows = prepared();
        for (int n = 0; n <= 15; n++) {
            Check.due("switch " + n, rows.node(9, n, 0), 2 + n);
        }
        for (int n : new int[] {LEAST, -16, -1, 16, 17, 256, MOST}) {
            Check.due("switch " + n, rows.node(9, n, 0), -4);
        }
        Check.due("so many nodes", rows.count(1), 17);
    }

    private static void partsOfRelations() {
        ConditionRows empty = new ConditionRows(0);
        ConditionRows rows = prepared();
        for (int op = 0; op <= 5; op++) {
            Check.due("no fields at all", empty.node(op, 0, 0), -2);
            for (int none : new int[] {LEAST, -1, 3, 39, 40, MOST}) {
                Check.due("relation " + op + " of " + none, rows.node(op, none, 2), -2);
                Check.due("relation " + op + " with " + none, rows.node(op, 2, none), -2);
                Check.due("relation " + op + " of none", rows.node(op, none, none), -2);
            }
            Check.due("the first and the last field", rows.node(op, 0, 2), 2 + 2 * op);
            Check.due("the last and the first field", rows.node(op, 2, 0), 3 + 2 * op);
        }
        Check.due("so many nodes", rows.count(1), 13);
    }

    private static void partsOfClassesAndSigns() {
        ConditionRows rows = prepared();
        for (int none : new int[] {LEAST, -1, 3, 39, 40, MOST}) {
            for (int kind = 0; kind <= 3; kind++) {
                Check.due("class of " + none, rows.node(6, none, kind), -2);
            }
            for (int sign = -1; sign <= 1; sign++) {
                Check.due("sign of " + none, rows.node(7, none, sign), -2);
            }
        }
        for (int sign = -1; sign <= 1; sign++) {
            Check.due("sign of a text", rows.node(7, 0, sign), -2);
        }
        Check.due("class of the first field", rows.node(6, 0, 0), 2);
        Check.due("class of the last field", rows.node(6, 2, 0), 3);
        Check.due("sign of digits", rows.node(7, 1, 0), 4);
        Check.due("sign of a binary", rows.node(7, 2, 0), 5);
        Check.due("so many nodes", rows.count(1), 5);
    }

    private static void partsOfNames() {
        ConditionRows empty = new ConditionRows(0);
        Check.due("no names at all", empty.node(8, 1, 0), -2);
        ConditionRows rows = prepared();
        for (int none : new int[] {LEAST, -1, 0, 2, 40, 41, MOST}) {
            Check.due("name " + none, rows.node(8, none, 0), -2);
        }
        Check.due("the name", rows.node(8, 1, 0), 2);
        for (int name = 2; name <= 40; name++) {
            rows.name88(1, 0, name);
        }
        Check.due("the last name", rows.node(8, 40, 0), 3);
        Check.due("behind the last name", rows.node(8, 41, 0), -2);
        Check.due("it holds", rows.truth(3), true);
    }

    private static void partsOfNodes() {
        ConditionRows empty = new ConditionRows(0);
        for (int op = 10; op <= 12; op++) {
            Check.due("no nodes at all", empty.node(op, 1, 1), -2);
            Check.due("node 0", empty.node(op, 0, 0), -2);
        }
        ConditionRows rows = prepared();
        rows.node(9, 1, 0);
        // The number that the node itself would have is none yet.
        for (int none : new int[] {LEAST, -1, 0, 3, 200, 201, MOST}) {
            Check.due("not " + none, rows.node(10, none, 1), -2);
            for (int op = 11; op <= 12; op++) {
                Check.due(op + " of " + none, rows.node(op, none, 2), -2);
                Check.due(op + " with " + none, rows.node(op, 2, none), -2);
                Check.due(op + " of none", rows.node(op, none, none), -2);
            }
        }
        Check.due("so many nodes", rows.count(1), 2);
        Check.due("not the last", rows.node(10, 2, 0), 3);
        Check.due("the first and the last", rows.node(11, 1, 3), 4);
        Check.due("the last or the first", rows.node(12, 4, 1), 5);
        Check.due("the last or itself", rows.node(12, 5, 5), 6);
    }

    private static void whatIsNotNeeded() {
        for (int b : new int[] {LEAST, -4, -2, -1, 0, 1, 3, 13, 41, 201, MOST}) {
            ConditionRows rows = prepared();
            rows.switchOn(3, true);
            Check.due("a name with " + b, rows.node(8, 1, b), 2);
            Check.due("a switch with " + b, rows.node(9, 3, b), 3);
            Check.due("a not with " + b, rows.node(10, 1, b), 4);
            Check.due("the name holds", rows.truth(2), true);
            Check.due("the switch is on", rows.truth(3), true);
            Check.due("the not is true", rows.truth(4), true);
            Check.dueLeaves("its leaf", rows, 1);
        }
    }

    private static void outsideAheadOfNoSuch() {
        ConditionRows rows = prepared();
        for (int none : new int[] {LEAST, -1, 3, 201, MOST}) {
            Check.due("op -1 of none", rows.node(-1, none, none), -4);
            Check.due("op 13 of none", rows.node(13, none, none), -4);
            Check.due("class 4 of none", rows.node(6, none, 4), -4);
            Check.due("class -1 of none", rows.node(6, none, -1), -4);
            Check.due("sign 2 of none", rows.node(7, none, 2), -4);
            Check.due("sign -2 of none", rows.node(7, none, -2), -4);
        }
        Check.due("sign 2 of a text", rows.node(7, 0, 2), -4);
        Check.due("sign -2 of a text", rows.node(7, 0, -2), -4);
        Check.due("so many nodes", rows.count(1), 1);
    }

    private static void full() {
        ConditionRows rows = prepared();
        for (int number = 2; number <= 200; number++) {
            Check.due("node " + number, rows.node(10, number - 1, 0), number);
        }
        for (int op = 0; op <= 12; op++) {
            Check.due("the 201st by " + op, rows.node(op, 1, 1), ConditionRows.NONE);
        }
        Check.due("-4 ahead of no room", rows.node(13, 1, 1), -4);
        Check.due("-4 ahead of no room, class", rows.node(6, 1, 4), -4);
        Check.due("-4 ahead of no room, sign", rows.node(7, 1, 2), -4);
        Check.due("-4 ahead of no room, switch", rows.node(9, 16, 1), -4);
        Check.due("-2 ahead of no room", rows.node(0, 3, 1), -2);
        Check.due("-2 ahead of no room, a text's sign", rows.node(7, 0, 1), -2);
        Check.due("-2 ahead of no room, name", rows.node(8, 2, 1), -2);
        Check.due("-2 ahead of no room, node", rows.node(11, 1, 201), -2);
        Check.due("200 nodes", rows.count(1), 200);
        Check.due("199 nots of off", rows.truth(200), true);
        Check.due("198 nots of off", rows.truth(199), false);
    }

    // One below, the same, one above.
    private static void relationsAtTheirEdges() {
        boolean[][] due = {
            {false, true, false}, {true, false, false}, {false, false, true},
            {true, true, false}, {false, true, true}, {true, false, true},
        };
        ConditionRows rows = new ConditionRows(0);
        int text = Check.text(rows, "B");
        int same = Check.text(rows, "B");
        int digits = Check.digits(rows, "1p");
        int binary = Check.binary(rows, 2, -10);
        for (int op = 0; op <= 5; op++) {
            int texts = rows.node(op, text, same);
            int numbers = rows.node(op, digits, binary);
            for (int off = -1; off <= 1; off++) {
                rows.octet(text, 0, 'B' + off);
                rows.octet(digits, 1, 112 - off + (off > 0 ? 10 : 0));
                rows.octet(digits, 0, off > 0 ? 48 : 49);
                Check.due("texts by " + op + ", " + off, rows.truth(texts), due[op][off + 1]);
                Check.due("numbers by " + op + ", " + off, rows.truth(numbers), due[op][off + 1]);
            }
        }
    }

    private static boolean fits(int b, int kind) {
        boolean upper = b >= 65 && b <= 90 || b == 32;
        boolean lower = b >= 97 && b <= 122 || b == 32;
        return kind == 0 ? b >= 48 && b <= 57 : kind == 1 ? upper || lower : kind == 2 ? upper : lower;
    }

    private static void classOfEachByte() {
        for (int b = 0; b < 256; b++) {
            ConditionRows rows = new ConditionRows(0);
            for (int category = 0; category < 3; category++) {
                rows.field(category, 1);
                rows.octet(category, 0, b);
                for (int kind = 1; kind <= 3; kind++) {
                    Check.due("class " + kind + " of byte " + b + ", category " + category,
                        rows.truth(rows.node(6, category, kind)), fits(b, kind));
                }
            }
            Check.due("a numeric text of " + b, rows.truth(rows.node(6, 0, 0)), fits(b, 0));
            Check.due("a numeric binary of " + b, rows.truth(rows.node(6, 2, 0)), true);
            Check.due("numeric digits of " + b, rows.truth(rows.node(6, 1, 0)), fits(b, 0) || b >= 112 && b <= 121);
        }
    }

    private static void classAtEachPlace() {
        String right = "7ZZz";
        for (int kind = 0; kind <= 3; kind++) {
            for (int size : new int[] {1, 2, 31, 32}) {
                ConditionRows rows = new ConditionRows(0);
                int field = Check.text(rows, right.substring(kind, kind + 1).repeat(size));
                int node = rows.node(6, field, kind);
                Check.due("class " + kind + " of " + size, rows.truth(node), true);
                for (int i = 0; i < size; i++) {
                    rows.octet(field, i, 64);
                    Check.due("a wrong byte at " + i + " of " + size, rows.truth(node), false);
                    rows.octet(field, i, right.charAt(kind));
                    Check.due("mended", rows.truth(node), true);
                }
            }
        }
    }

    // By their bytes, whatever their value; and no class is a fault.
    private static void classesOfNumbers() {
        ConditionRows rows = new ConditionRows(0);
        int bad = Check.digits(rows, "Ab ");
        int upper = Check.digits(rows, "AB ");
        int lower = Check.digits(rows, "pqr");
        int minus = Check.digits(rows, "12r");
        int binary = Check.binary(rows, 8, 0x4142434445464748L);
        int mixed = Check.binary(rows, 8, 0x4162204445464748L);
        boolean[][] due = {
            {false, true, false, false}, {false, true, true, false}, {false, true, false, true},
            {true, false, false, false}, {true, true, true, false}, {true, true, false, false},
        };
        int[] fields = {bad, upper, lower, minus, binary, mixed};
        for (int n = 0; n < fields.length; n++) {
            for (int kind = 0; kind <= 3; kind++) {
                Check.due("class " + kind + " of number " + n, rows.truth(rows.node(6, fields[n], kind)), due[n][kind]);
            }
        }
    }

    private static void dueSign(ConditionRows rows, int field, int sign) {
        for (int scale = 0; scale <= 9; scale += 9) {
            rows.scale(field, scale);
            for (int b = -1; b <= 1; b++) {
                Check.due("sign " + b + " of field " + field, rows.truth(rows.node(7, field, b)), b == sign);
            }
        }
    }

    private static void signsAtTheirEdges() {
        ConditionRows rows = new ConditionRows(0);
        dueSign(rows, Check.digits(rows, "0"), 0);
        dueSign(rows, Check.digits(rows, "p"), 0);
        dueSign(rows, Check.digits(rows, "0".repeat(17) + "p"), 0);
        dueSign(rows, Check.digits(rows, "0".repeat(17) + "1"), 1);
        dueSign(rows, Check.digits(rows, "0".repeat(17) + "q"), -1);
        dueSign(rows, Check.digits(rows, "9".repeat(18)), 1);
        dueSign(rows, Check.digits(rows, "9".repeat(17) + "y"), -1);
        dueSign(rows, Check.digits(rows, "1" + "0".repeat(16) + "p"), -1);
        for (int size = 1; size <= 8; size++) {
            long most = size == 8 ? Long.MAX_VALUE : (1L << 8 * size - 1) - 1;
            ConditionRows binaries = new ConditionRows(0);
            dueSign(binaries, Check.binary(binaries, size, 0), 0);
            dueSign(binaries, Check.binary(binaries, size, 1), 1);
            dueSign(binaries, Check.binary(binaries, size, most), 1);
            dueSign(binaries, Check.binary(binaries, size, -most - 1), -1);
            dueSign(binaries, Check.binary(binaries, size, -1), -1);
        }
        ConditionRows high = new ConditionRows(0);
        dueSign(high, Check.binary(high, 8, 1L << 32), 1);
        dueSign(high, Check.binary(high, 8, 1L << 31), 1);
        dueSign(high, Check.binary(high, 8, -1L << 32), -1);
    }

    private static void eachSwitch() {
        ConditionRows rows = new ConditionRows(0);
        for (int n = 0; n <= 15; n++) {
            rows.node(9, n, 0);
        }
        for (int on = 0; on <= 15; on++) {
            rows.switchOn(on, true);
            for (int n = 0; n <= 15; n++) {
                Check.due("switch " + n + " when " + on + " is on", rows.truth(n + 1), n == on);
            }
            rows.switchOn(on, false);
        }
    }
}
