/** Counts the answers that are not the ones that are due, and prints them. */
final class Check {
    static final int NOTHING = 0;
    static final int ARGUMENT = 1;
    static final int STATE = 2;

    /** What answer() tells for an exception. */
    static final int THROWS_ARGUMENT = -101;
    static final int THROWS_STATE = -102;

    /** One call of the face; a boolean counts 1 or 0. */
    interface Call {
        int on(ConditionRows rows);
    }

    private static int wrong = 0;
    private static int asked = 0;

    private Check() {
    }

    static void due(String call, long got, long want) {
        asked++;
        if (got != want) {
            wrong++;
            System.out.println(call + " answered " + got + ", due is " + want);
        }
    }

    static void due(String call, boolean got, boolean want) {
        due(call, got ? 1 : 0, want ? 1 : 0);
    }

    /** Which exception truth throws for a node. */
    static int thrownByTruth(ConditionRows rows, int node) {
        try {
            rows.truth(node);
            return NOTHING;
        } catch (IllegalArgumentException e) {
            return ARGUMENT;
        } catch (IllegalStateException e) {
            return STATE;
        }
    }

    /** Which exception compare throws for two fields. */
    static int thrownByCompare(ConditionRows rows, int a, int b) {
        try {
            rows.compare(a, b);
            return NOTHING;
        } catch (IllegalArgumentException e) {
            return ARGUMENT;
        } catch (IllegalStateException e) {
            return STATE;
        }
    }

    static int answer(ConditionRows rows, Call call) {
        try {
            return call.on(rows);
        } catch (IllegalArgumentException e) {
            return THROWS_ARGUMENT;
        } catch (IllegalStateException e) {
            return THROWS_STATE;
        }
    }

    static void dueLeaves(String what, ConditionRows rows, int... leaves) {
        due(what + ": count(4)", rows.count(4), leaves.length);
        for (int i = 0; i < leaves.length; i++) {
            due(what + ": asked(" + i + ")", rows.asked(i), leaves[i]);
        }
        due(what + ": asked behind the last", rows.asked(leaves.length), 0);
        due(what + ": asked(-1)", rows.asked(-1), 0);
    }

    /** A new field with the text's characters as its bytes. */
    static int text(ConditionRows rows, String text) {
        return filled(rows, rows.field(0, text.length()), text);
    }

    /** A new field of digits with the text's characters as its bytes. */
    static int digits(ConditionRows rows, String text) {
        return filled(rows, rows.field(1, text.length()), text);
    }

    /** A name of the field with the one value that holds. */
    static boolean hasValue(ConditionRows rows, int field, long value) {
        return rows.truth(rows.node(8, rows.name88(field, value, value), 0));
    }

    private static int filled(ConditionRows rows, int field, String text) {
        for (int i = 0; i < text.length(); i++) {
            rows.octet(field, i, text.charAt(i));
        }
        return field;
    }

    /** A new binary field of so many bytes with the value. */
    static int binary(ConditionRows rows, int size, long value) {
        int field = rows.field(2, size);
        for (int i = 0; i < size; i++) {
            rows.octet(field, i, (int) (value >> 8 * (size - 1 - i)));
        }
        return field;
    }

    static void end() {
        System.out.println(wrong == 0 ? asked + " answers are as due" : wrong + " answers are not as due");
        if (wrong != 0) {
            System.exit(1);
        }
    }
}
