/** The edges of Terms' COMPARING and of promise 15. */
final class CompareEdgesTest {
    private static final int LEAST = Integer.MIN_VALUE;
    private static final int MOST = Integer.MAX_VALUE;

    public static void main(String[] args) {
        noughts();
        endsOfNumbers();
        scaledProductsWrapAround();
        scaledNeighbours();
        bytesInOrder();
        eachPlaceOfTexts();
        filling();
        weightsOfTexts();
        digitsAsTexts();
        fewestDigits();
        numbersBehindTheText();
        missing();
        badOnes();
        Check.end();
    }

    private static void bothWays(String what, ConditionRows rows, int a, int b, int want) {
        Check.due(what, rows.compare(a, b), want);
        Check.due(what + ", the other way", rows.compare(b, a), -want);
    }

    // 0 of both signs, of both categories, of any scale is alike.
    private static void noughts() {
        ConditionRows rows = new ConditionRows(0);
        int[] noughts = {
            Check.digits(rows, "0"), Check.digits(rows, "p"), Check.digits(rows, "0".repeat(18)),
            Check.digits(rows, "0".repeat(17) + "p"), Check.binary(rows, 1, 0), Check.binary(rows, 8, 0)
        };
        for (int scale = 0; scale <= 9; scale += 9) {
            for (int a : noughts) {
                rows.scale(a, scale);
                for (int b : noughts) {
                    Check.due("0 and 0, fields " + a + ", " + b, rows.compare(a, b), 0);
                }
            }
        }
        int above = Check.digits(rows, "1");
        int below = Check.digits(rows, "q");
        for (int nought : noughts) {
            bothWays("0 and 1", rows, nought, above, -1);
            bothWays("0 and -1", rows, nought, below, 1);
        }
    }

    private static void endsOfNumbers() {
        ConditionRows rows = new ConditionRows(0);
        int[] rising = {
            Check.binary(rows, 8, Long.MIN_VALUE), Check.binary(rows, 8, Long.MIN_VALUE + 1),
            Check.digits(rows, "9".repeat(17) + "y"), Check.digits(rows, "9".repeat(17) + "x"),
            Check.binary(rows, 4, LEAST), Check.binary(rows, 2, -32768), Check.binary(rows, 1, -128),
            Check.digits(rows, "9w"), Check.digits(rows, "1p"), Check.digits(rows, "q"), Check.digits(rows, "0"),
            Check.digits(rows, "1"), Check.digits(rows, "10"), Check.binary(rows, 1, 127), Check.binary(rows, 2, 128),
            Check.binary(rows, 4, MOST), Check.digits(rows, "9".repeat(17) + "8"), Check.digits(rows, "9".repeat(18)),
            Check.binary(rows, 8, Long.MAX_VALUE - 1), Check.binary(rows, 8, Long.MAX_VALUE)
        };
        for (int a = 0; a < rising.length; a++) {
            for (int b = a; b < rising.length; b++) {
                Check.due("numbers " + a + ", " + b, rows.compare(rising[a], rising[b]), Integer.compare(a, b));
            }
            Check.due("the last and " + a, rows.compare(rising[rising.length - 1], rising[a]),
                Integer.compare(rising.length - 1, a));
        }
    }

    // Times 10^n these are 0, or of the other sign, in a long.
    private static void scaledProductsWrapAround() {
        for (int n = 1; n <= 9; n++) {
            ConditionRows rows = new ConditionRows(0);
            int nought = rows.field(2, 8);
            rows.scale(nought, n);
            int least = Check.binary(rows, 8, Long.MIN_VALUE);
            int most = Check.binary(rows, 8, Long.MAX_VALUE);
            int high = Check.binary(rows, 8, 1L << Math.min(62, 64 - n));
            bothWays("the least and 0 with " + n, rows, least, nought, -1);
            bothWays("the most and 0 with " + n, rows, most, nought, 1);
            bothWays("a power of 2 and 0 with " + n, rows, high, nought, 1);
            int leastScaled = Check.binary(rows, 8, Long.MIN_VALUE);
            int mostScaled = Check.binary(rows, 8, Long.MAX_VALUE);
            rows.scale(leastScaled, n);
            rows.scale(mostScaled, n);
            bothWays("the least and the least with " + n, rows, least, leastScaled, -1);
            bothWays("the most and the most with " + n, rows, most, mostScaled, 1);
            bothWays("the least and the most with " + n, rows, least, mostScaled, -1);
            bothWays("the most and the least with " + n, rows, most, leastScaled, 1);
            bothWays("both with " + n, rows, leastScaled, mostScaled, -1);
        }
    }

    // The last number below, the same one, the first above, on both sides of 0.
    private static void scaledNeighbours() {
        long unit = 1;
        for (int n = 1; n <= 9; n++) {
            unit *= 10;
            for (long coarse : new long[] {7, 0, -7}) {
                ConditionRows rows = new ConditionRows(0);
                int whole = Check.binary(rows, 8, coarse);
                for (int off = -1; off <= 1; off++) {
                    int fine = Check.binary(rows, 8, coarse * unit + off);
                    rows.scale(fine, n);
                    bothWays(coarse + " with " + n + " decimals, " + off, rows, fine, whole, off);
                }
            }
        }
        ConditionRows rows = new ConditionRows(0);
        int a = Check.digits(rows, "999999999999999999");
        int b = Check.digits(rows, "999999999999999999");
        rows.scale(a, 9);
        rows.scale(b, 8);
        bothWays("scale 9 and 8", rows, a, b, -1);
        rows.scale(b, 9);
        bothWays("scale 9 and 9", rows, a, b, 0);
    }

    private static void bytesInOrder() {
        for (int b = 0; b < 256; b++) {
            ConditionRows rows = new ConditionRows(0);
            int low = rows.field(0, 1);
            int high = rows.field(0, 1);
            rows.octet(low, 0, b);
            rows.octet(high, 0, b);
            bothWays("byte " + b + " twice", rows, low, high, 0);
            rows.octet(high, 0, b + 1);
            bothWays("byte " + b + " and the next", rows, low, high, b == 255 ? 1 : -1);
            rows.octet(high, 0, 255 - b);
            bothWays("byte " + b + " and its opposite", rows, low, high, Integer.compare(b, 255 - b));
        }
    }

    private static void eachPlaceOfTexts() {
        ConditionRows rows = new ConditionRows(0);
        int a = Check.text(rows, "M".repeat(32));
        int b = Check.text(rows, "M".repeat(32));
        bothWays("alike", rows, a, b, 0);
        for (int i = 31; i >= 0; i--) {
            // Each byte more to the left outweighs all behind it.
            rows.octet(a, i, i % 2 == 0 ? 'L' : 'N');
            bothWays("the byte at " + i, rows, a, b, i % 2 == 0 ? -1 : 1);
        }
    }

    private static void filling() {
        for (int size = 1; size < 32; size++) {
            ConditionRows rows = new ConditionRows(0);
            int shorter = Check.text(rows, "M".repeat(size));
            int longer = Check.text(rows, "M".repeat(size) + " ".repeat(32 - size));
            bothWays("filled from " + size, rows, shorter, longer, 0);
            for (int i = 31; i >= size; i--) {
                rows.octet(longer, i, 33);
                bothWays("33 at " + i, rows, shorter, longer, -1);
                rows.octet(longer, i, 31);
                bothWays("31 at " + i, rows, shorter, longer, 1);
                rows.octet(longer, i, 32);
            }
        }
    }

    private static void weightsOfTexts() {
        ConditionRows rows = new ConditionRows(0);
        int a = Check.text(rows, "\0");
        int b = Check.text(rows, "\u00ff");
        bothWays("0 and 255", rows, a, b, -1);
        rows.weight(0, 255);
        bothWays("both of weight 255", rows, a, b, 0);
        rows.weight(255, 0);
        bothWays("of weight 255 and 0", rows, a, b, 1);
        rows.weight(0, 0);
        bothWays("both of weight 0", rows, a, b, 0);
        int empty = Check.text(rows, " ");
        bothWays("a space and 0", rows, empty, a, 1);
        rows.weight(32, 0);
        bothWays("a space of weight 0", rows, empty, Check.text(rows, "\0".repeat(32)), 0);
        rows.weight(48, 0);
        bothWays("a digit of a number has its weight", rows, empty, rows.field(2, 8), 0);
        bothWays("and digits have", rows, empty, rows.field(1, 18), 0);
        bothWays("numbers have none", rows, Check.digits(rows, "0"), Check.digits(rows, "1"), -1);
        // A negative digit is weighed as the digit that it stands for.
        rows.weight(112, 200);
        bothWays("its own byte's weight is not asked", rows, empty, Check.digits(rows, "p"), 0);
    }

    private static void digitsAsTexts() {
        for (int size = 1; size <= 18; size++) {
            ConditionRows rows = new ConditionRows(0);
            String all = "123456789012345678".substring(0, size);
            int digits = Check.digits(rows, all);
            bothWays("all of " + size, rows, digits, Check.text(rows, all), 0);
            bothWays("filled behind " + size, rows, digits, Check.text(rows, all + " ".repeat(32 - size)), 0);
            bothWays("one digit more", rows, digits, Check.text(rows, all + "0"), -1);
            rows.octet(digits, size - 1, all.charAt(size - 1) + 64);
            rows.scale(digits, 9);
            bothWays("no sign and no point", rows, digits, Check.text(rows, all), 0);
            int noughts = rows.field(1, size);
            bothWays("as many noughts", rows, noughts, Check.text(rows, "0".repeat(size)), 0);
            bothWays("not one more", rows, noughts, Check.text(rows, "0".repeat(size + 1)), -1);
        }
    }

    private static void dueFewest(long value, String digits) {
        ConditionRows rows = new ConditionRows(0);
        int binary = Check.binary(rows, 8, value);
        bothWays(value + " as " + digits, rows, binary, Check.text(rows, digits), 0);
        rows.scale(binary, 9);
        bothWays("whatever its scale", rows, binary, Check.text(rows, digits), 0);
        bothWays("a 0 ahead of " + value, rows, binary, Check.text(rows, "0" + digits),
            digits.equals("0") ? -1 : 1);
        bothWays("a 0 behind " + value, rows, binary, Check.text(rows, digits + "0"), -1);
    }

    private static void fewestDigits() {
        dueFewest(0, "0");
        String nines = "";
        String power = "1";
        for (int n = 1; n <= 18; n++) {
            dueFewest(Long.parseLong(power), power);
            dueFewest(-Long.parseLong(power), power);
            nines += "9";
            dueFewest(Long.parseLong(nines), nines);
            dueFewest(-Long.parseLong(nines), nines);
            power += "0";
        }
        dueFewest(1000000000000000000L, "1000000000000000000");
        dueFewest(Long.MAX_VALUE, "9223372036854775807");
        dueFewest(-Long.MAX_VALUE, "9223372036854775807");
        dueFewest(Long.MIN_VALUE, "9223372036854775808");
        dueFewest(Long.MIN_VALUE + 1000, "9223372036854774808");
    }

    private static void numbersBehindTheText() {
        ConditionRows rows = new ConditionRows(0);
        bothWays("9 and 10 as texts", rows, Check.text(rows, "9"), Check.binary(rows, 1, 10), 1);
        bothWays("9 and -1 as texts", rows, Check.text(rows, "9"), Check.binary(rows, 1, -1), 1);
        bothWays("09 and 1 as texts", rows, Check.text(rows, "1"), Check.digits(rows, "09"), 1);
        bothWays("a minus is below a digit", rows, Check.text(rows, "-1"), Check.digits(rows, "q"), -1);
        bothWays("1.0 and 10", rows, Check.text(rows, "1.0"), Check.digits(rows, "10"), -1);
    }

    private static void missing() {
        ConditionRows rows = new ConditionRows(0);
        int[] none = {LEAST, -1, 0, 1, 39, 40, MOST};
        for (int field : none) {
            Check.due("no fields: " + field, Check.thrownByCompare(rows, field, field), Check.ARGUMENT);
        }
        int bad = Check.digits(rows, "A");
        int good = Check.text(rows, "A");
        for (int field : new int[] {LEAST, -1, 2, 39, 40, MOST}) {
            for (int other : new int[] {bad, good, field}) {
                Check.due("none on the left: " + field, Check.thrownByCompare(rows, field, other), Check.ARGUMENT);
                Check.due("none on the right: " + field, Check.thrownByCompare(rows, other, field), Check.ARGUMENT);
            }
        }
        for (int number = 2; number < 40; number++) {
            rows.field(0, 1);
        }
        Check.due("the last field", rows.compare(39, good), -1);
        Check.due("behind the last field", Check.thrownByCompare(rows, 40, good), Check.ARGUMENT);
        Check.due("behind the last field, right", Check.thrownByCompare(rows, good, 40), Check.ARGUMENT);
    }

    private static void badOnes() {
        ConditionRows rows = new ConditionRows(0);
        int bad = Check.digits(rows, "1:");
        int[] others = {Check.digits(rows, "1"), Check.text(rows, "1:"), Check.binary(rows, 1, 1), bad,
            Check.digits(rows, ":1")};
        for (int other : others) {
            Check.due("bad and " + other, Check.thrownByCompare(rows, bad, other), Check.STATE);
            Check.due(other + " and bad", Check.thrownByCompare(rows, other, bad), Check.STATE);
        }
        rows.octet(bad, 1, 57);
        bothWays("mended", rows, bad, others[0], 1);
        Check.due("no test was made", rows.count(4), 0);
    }
}
