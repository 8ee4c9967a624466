/**
 * The sentences on SETTLED, THE PRECISION, DIGITS, ORDER, QUOTIENTS and on promises 11 to 13 and
 * 16 to 20 that name a boundary, from both its sides; and the last call of an object.
 */
public final class AskedBoundariesTest {
    private static final int NONE = EnclosedDigits.NONE;
    private static final int OPEN = EnclosedDigits.OPEN;
    private static final int LEAST = Integer.MIN_VALUE;
    private static final int MOST = Integer.MAX_VALUE;
    private static final long SHOWN = 1L << 62;
    private static final int SUM = 0;
    private static final int DIFFERENCE = 1;
    private static final int PRODUCT = 2;
    private static final int QUOTIENT = 3;

    private final Report report = new Report();

    public static void main(String[] args) {
        AskedBoundariesTest test = new AskedBoundariesTest();
        test.digitsAreLookedAt();
        test.orderIsLookedAt();
        test.quotientsAreLookedAt();
        test.firstThatTells();
        test.openOnesDoNotTell();
        test.openAtTheLast();
        test.digitsTheSame();
        test.digitsRoundedDown();
        test.orderBelow();
        test.quotientsOrMore();
        test.quotientsTheSame();
        test.quotientsOfTheFraction();
        test.places();
        test.digitsAnswer();
        test.digitsOpen();
        test.digitFromLowest();
        test.digitAboveHighest();
        test.lengths();
        test.orderAnswers();
        test.orderOpen();
        test.howManyQuotients();
        test.quotientsOpen();
        test.quotientAt();
        test.quotientShown();
        test.quotientShownLater();
        test.many();
        test.precisionBeforeAny();
        test.precisionOfLatest();
        test.precisionNotOfNone();
        test.lastCalls();
        test.report.end();
    }

    private void due(String call, long got, long want) {
        report.due(call, got, want);
    }

    // ---- SETTLED

    /** n, the precision that is looked at first, and the one that is looked at last. */
    private static final int[][] PLACES = {
        {0, 10, 320}, {5, 15, 480}, {6, 16, 256}, {20, 30, 480}, {21, 31, 248}, {50, 60, 480},
        {51, 61, 244}, {110, 120, 480}, {111, 121, 242}, {230, 240, 480}, {231, 241, 241},
        {400, 410, 410}
    };

    /** Minus 10^-p is between - 1 and 0 units before p, and these are not rounded to the same. */
    private void digitsAreLookedAt() {
        report.sentence("Terms: SETTLED: the enclosures are looked at as long as it is not above "
            + "480; DIGITS to n places: from n + 10 on");
        for (int[] row : PLACES) {
            Counted x = new Counted();
            int n = row[0];
            due("digits at the first", x.digits(x.minus(x.tenth(row[1])), n), 0);
            due("precision() of " + n, x.precision(), row[1]);
            x.drop(0);
            due("digits at the last", x.digits(x.minus(x.tenth(row[2])), n), 0);
            due("precision() of " + n, x.precision(), row[2]);
            x.drop(0);
            due("digits after the last", x.digits(x.minus(x.tenth(row[2] + 1)), n), OPEN);
            due("precision() of " + n, x.precision(), 0);
            report.due("THE DIGITS stay", x.digits(), "1");
        }
    }

    private void orderIsLookedAt() {
        report.sentence("Terms: SETTLED: as long as it is not above 480; ORDER of two: from 10 on");
        int[][] rows = {{10, 10}, {11, 20}, {20, 20}, {21, 40}, {40, 40}, {41, 80}, {80, 80},
            {81, 160}, {160, 160}, {161, 320}, {320, 320}};
        Counted x = new Counted();
        for (int[] row : rows) {
            x.drop(0);
            int small = x.tenth(row[0]);
            int zero = x.whole(0);
            due("order(10^-" + row[0] + ", 0)", x.order(small, zero), 1);
            due("precision()", x.precision(), row[1]);
            due("order(0, 10^-" + row[0] + ")", x.order(zero, small), 0);
            due("precision()", x.precision(), row[1]);
        }
        x.drop(0);
        int tooSmall = x.tenth(321);
        int zero = x.whole(0);
        due("order(10^-321, 0)", x.order(tooSmall, zero), OPEN);
        due("precision()", x.precision(), 0);
        due("order(0, 10^-321)", x.order(zero, tooSmall), OPEN);
        due("precision()", x.precision(), 0);
    }

    /** How many quotients the continued fraction of over / under has. */
    private static int fractionLength(long over, long under) {
        long a = over;
        long b = under;
        int length = 0;
        while (b != 0) {
            long rest = a % b;
            a = b;
            b = rest;
            length++;
        }
        return length;
    }

    /** k, the first precision, the last, and a fraction over / under with k - 1 quotients. */
    private static final long[][] SHORT_FRACTIONS = {
        {3, 16, 256, 1, 10}, {5, 20, 320, 6, 10}, {10, 30, 480, 619, 1000},
        {11, 32, 256, 629, 1000}, {25, 60, 480, 618001, 1000000},
        {26, 62, 248, 618097, 1000000}, {39, 88, 352, 618034961, 1000000000},
        {40, 90, 360, 6180165371L, 10000000000L}
    };

    /**
     * The short fraction and 10^-p more or less, to the side on which further quotients follow
     * its own: before p one end is that fraction itself, and has one too few of them.
     */
    private static int hiddenTill(Counted x, int p, long[] row) {
        x.drop(0);
        int fraction = x.ratio(row[3], row[4]);
        return x.join(row[0] % 2 == 0 ? SUM : DIFFERENCE, fraction, x.tenth(p));
    }

    private void quotientsAreLookedAt() {
        report.sentence("Terms: SETTLED: as long as it is not above 480; QUOTIENTS: from "
            + "2 k + 10 on");
        for (long[] row : SHORT_FRACTIONS) {
            Counted x = new Counted();
            int k = (int) row[0];
            int first = (int) row[1];
            int last = (int) row[2];
            due("the fraction's quotients", fractionLength(row[3], row[4]), k - 1);
            due(k + " at the first", x.quotients(hiddenTill(x, first, row), k), 1);
            due("precision() of " + k, x.precision(), first);
            due(k + " after the first", x.quotients(hiddenTill(x, first + 1, row), k), 1);
            due("precision() of " + k, x.precision(), 2 * first);
            due(k + " at the last", x.quotients(hiddenTill(x, last, row), k), 1);
            due("precision() of " + k, x.precision(), last);
            due("many()", x.many(), k);
            due(k + " after the last", x.quotients(hiddenTill(x, last + 1, row), k), OPEN);
            due("precision() of " + k, x.precision(), 0);
            due("many()", x.many(), k);
        }
    }

    private void firstThatTells() {
        report.sentence("Terms: SETTLED: at that, at twice it, and so on; the first at which it "
            + "can be told settles it");
        int[][] rows = {{12, 12}, {13, 24}, {24, 24}, {25, 48}, {96, 96}, {97, 192}, {192, 192},
            {193, 384}, {384, 384}, {385, 0}};
        Counted x = new Counted();
        for (int[] row : rows) {
            x.drop(0);
            int v = x.minus(x.tenth(row[0]));
            due("quotients(- 10^-" + row[0] + ", 1)", x.quotients(v, 1), row[1] == 0 ? OPEN : 1);
            due("precision()", x.precision(), row[1]);
            due("digits(- 10^-" + row[0] + ", 2)", x.digits(v, 2), row[1] == 0 ? OPEN : 0);
            due("precision()", x.precision(), row[1]);
        }
    }

    private void openOnesDoNotTell() {
        report.sentence("Terms: SETTLED: an OPEN enclosure can't tell, a later one may");
        Counted x = new Counted();
        int one = x.whole(1);
        int by = x.join(QUOTIENT, one, x.tenth(100));
        due("digits(10^100, 0)", x.digits(by, 0), 1);
        due("precision()", x.precision(), 160);
        due("length()", x.length(), 101);
        due("digits(10^100, 90)", x.digits(by, 90), 1);
        due("precision()", x.precision(), 100);
        due("digits(10^100, 89)", x.digits(by, 89), 1);
        due("precision()", x.precision(), 198);
        due("order(10^100, 1)", x.order(by, one), 1);
        due("precision()", x.precision(), 160);
        due("order(1, 10^100)", x.order(one, by), 0);
        due("precision()", x.precision(), 160);
        due("quotients(10^100, 1)", x.quotients(by, 1), 1);
        due("precision()", x.precision(), 192);
        due("quotient(0)", x.quotient(0), SHOWN);
    }

    private void openAtTheLast() {
        report.sentence("Terms: SETTLED: else it is not settled, be it OPEN at each or at some");
        Counted x = new Counted();
        int one = x.whole(1);
        int by = x.join(QUOTIENT, one, x.tenth(411));
        due("1 by 10^-411 at 410", x.digits(by, 400), OPEN);
        due("order with it", x.order(by, one), OPEN);
        x.drop(1);
        by = x.join(QUOTIENT, one, x.tenth(390));
        due("1 by 10^-390 at 410", x.digits(by, 400), OPEN);
        due("it has 801 digits there", x.enclose(by, 410), OPEN);
        due("and 800 at 409", x.enclose(by, 409), 1);
        x.drop(0);
        int large = x.tens(390);
        due("10^390 at 410", x.digits(large, 400), OPEN);
        due("10^390 at 409", x.digits(large, 399), 1);
        due("precision()", x.precision(), 409);
        due("length()", x.length(), 790);
    }

    // ---- DIGITS

    private void digitsTheSame() {
        report.sentence("Terms: DIGITS: if L and H, each divided by 10^(p - n) and rounded down, "
            + "are the same: that number");
        Counted x = new Counted();
        int two = x.whole(2);
        int above = x.join(SUM, two, x.tenth(11));
        int below = x.join(DIFFERENCE, two, x.tenth(11));
        report.due("L is 2 at 10", x.ends(above, 10, 12), "20000000000 20000000001");
        due("digits of 2 + 10^-11", x.digits(above, 0), 1);
        report.due("they", x.digits(), "2");
        due("precision()", x.precision(), 10);
        report.due("H is 2 at 10", x.ends(below, 10, 12), "19999999999 20000000000");
        due("digits of 2 - 10^-11", x.digits(below, 0), 1);
        report.due("they", x.digits(), "1");
        due("precision()", x.precision(), 20);
        due("digits of 2", x.digits(two, 0), 1);
        report.due("they", x.digits(), "2");
        due("precision()", x.precision(), 10);
        int root = x.root(two);
        int square = x.join(PRODUCT, root, root);
        due("digits of root 2 squared", x.digits(square, 0), OPEN);
        report.due("they stay", x.digits(), "2");
    }

    private void digitsRoundedDown() {
        report.sentence("Terms: DIGITS: divided by 10^(p - n) and rounded down");
        Counted x = new Counted();
        int[][] rows = {{-20, -2}, {-19, -2}, {-11, -2}, {-10, -1}, {-9, -1}, {-1, -1}, {0, 0},
            {1, 0}, {9, 0}, {10, 1}, {11, 1}, {19, 1}, {20, 2}};
        for (int[] row : rows) {
            int v = x.ratio(row[0], 100);
            due("digits(" + row[0] + " / 100, 1)", x.digits(v, 1), row[1] < 0 ? 0 : 1);
            report.due("they", x.digits(), Integer.toString(Math.abs(row[1])));
            due("digits(" + row[0] + " / 100, 2)", x.digits(v, 2), row[0] < 0 ? 0 : 1);
            report.due("they", x.digits(), Integer.toString(Math.abs(row[0])));
        }
    }

    // ---- ORDER

    private void orderBelow() {
        report.sentence("Terms: ORDER: if one's H is below the other's L");
        Counted x = new Counted();
        int zero = x.whole(0);
        int unit = x.ratio(1, 10000000000L);
        int half = x.ratio(5, 100000000000L);
        int less = x.ratio(-5, 100000000000L);
        int oneAndHalf = x.ratio(15, 100000000000L);
        report.due("half a unit at 10", x.ends(half, 10, 2), "0 1");
        due("0 and a unit", x.order(zero, unit), 0);
        due("precision()", x.precision(), 10);
        due("0 and half a unit: H is L", x.order(zero, half), 0);
        due("precision()", x.precision(), 20);
        due("half a unit and 0: H is L", x.order(half, zero), 1);
        due("precision()", x.precision(), 20);
        due("half a unit and a unit: H is L", x.order(half, unit), 0);
        due("precision()", x.precision(), 20);
        due("half a unit and one and a half: H is L", x.order(half, oneAndHalf), 0);
        due("precision()", x.precision(), 20);
        due("minus half a unit and a unit", x.order(less, unit), 0);
        due("precision()", x.precision(), 10);
        due("minus half a unit and one and a half", x.order(less, oneAndHalf), 0);
        due("precision()", x.precision(), 10);
        due("one and a half and minus half a unit", x.order(oneAndHalf, less), 1);
        due("precision()", x.precision(), 10);
        due("minus half a unit and half a unit: H is L", x.order(less, half), 0);
        due("precision()", x.precision(), 20);
    }

    // ---- QUOTIENTS

    private void quotientsOrMore() {
        report.sentence("Terms: QUOTIENTS: if the continued fractions have k quotients or more");
        long[][] rows = {{3, 1, 1}, {-3, 1, 1}, {0, 1, 1}, {7, 2, 2}, {-7, 4, 2}, {-1, 4, 3},
            {5, 8, 5}, {3, 16, 3}, {71, 100, 6}};
        for (long[] row : rows) {
            Counted x = new Counted();
            String name = row[0] + " / " + row[1];
            int v = x.ratio(row[0], row[1]);
            int length = (int) row[2];
            for (int k = 1; k <= length; k++) {
                due(k + " of " + name, x.quotients(v, k), 1);
                due("precision()", x.precision(), 2 * k + 10);
                due("many()", x.many(), k);
            }
            String all = x.quotients();
            due(length + 1 + " of " + name, x.quotients(v, length + 1), OPEN);
            due("40 of " + name, x.quotients(v, 40), OPEN);
            due("precision()", x.precision(), 0);
            report.due("they stay", x.quotients(), all);
        }
    }

    private void quotientsTheSame() {
        report.sentence("Terms: QUOTIENTS: and the first k of both are the same");
        Counted x = new Counted();
        int third = x.ratio(1, 3);
        due("1 of 1 / 3", x.quotients(third, 1), 1);
        report.due("they", x.quotients(), "0");
        due("2 of 1 / 3: they are 3 and 2", x.quotients(third, 2), OPEN);
        report.due("they stay", x.quotients(), "0");
        int seventh = x.ratio(22, 7);
        due("1 of 22 / 7", x.quotients(seventh, 1), 1);
        report.due("they", x.quotients(), "3");
        due("2 of 22 / 7: they are 7 and 6", x.quotients(seventh, 2), OPEN);
        due("many()", x.many(), 1);
        int e = x.power(1, 1);
        due("9 of e", x.quotients(e, 9), 1);
        report.due("they", x.quotients(), "2 1 2 1 1 4 1 1 6");
        due("precision()", x.precision(), 28);
        int root = x.root(x.whole(2));
        int square = x.join(PRODUCT, root, root);
        due("1 of root 2 squared: they are 1 and 2", x.quotients(square, 1), OPEN);
        due("many()", x.many(), 9);
    }

    private void quotientsOfTheFraction() {
        report.sentence("Terms: it rounded down; then, as long as it is not whole, 1 by what it "
            + "is more than that, rounded down, and so on");
        Counted x = new Counted();
        long[][] given = {{-3, 1}, {-7, 2}, {-1, 4}, {-1, 10}, {0, 9}, {1, 2}, {5, 8}, {-5, 8},
            {999, 1000}, {-1001, 1000}};
        String[] want = {"-3", "-4 2", "-1 1 3", "-1 1 9", "0", "0 2", "0 1 1 1 2", "-1 2 1 2",
            "0 1 999", "-2 1 999"};
        for (int i = 0; i < want.length; i++) {
            int v = x.ratio(given[i][0], given[i][1]);
            int k = want[i].split(" ").length;
            due(k + " of " + given[i][0] + " / " + given[i][1], x.quotients(v, k), 1);
            report.due("they", x.quotients(), want[i]);
            due(k + 1 + " of it", x.quotients(v, k + 1), OPEN);
        }
    }

    // ---- Promises 11 to 13

    private void places() {
        report.sentence("Promise 11: to n places, 0 .. 400. NONE: n, too");
        Counted x = new Counted();
        x.root(x.whole(2));
        due("digits(1, 0)", x.digits(1, 0), 1);
        due("length()", x.length(), 1);
        due("digits(1, 400)", x.digits(1, 400), 1);
        due("length()", x.length(), 401);
        due("digits(1, 399)", x.digits(1, 399), 1);
        due("length()", x.length(), 400);
        for (int wrong : new int[] {LEAST, -10, -9, -1, 401, 470, 471, 1 << 16, MOST - 9, MOST}) {
            due("digits(1, " + wrong + ")", x.digits(1, wrong), NONE);
            due("precision() stays", x.precision(), 409);
            due("length() stays", x.length(), 400);
        }
    }

    private void digitsAnswer() {
        report.sentence("Promise 11: 1 if their number is 0 or more, 0 if it is below");
        Counted x = new Counted();
        int zero = x.whole(0);
        int tenth = x.ratio(1, 10);
        int less = x.ratio(-1, 10);
        due("0 to 0 places", x.digits(zero, 0), 1);
        due("0 to 400 places", x.digits(zero, 400), 1);
        due("1 / 10 to 0 places: 0", x.digits(tenth, 0), 1);
        due("- 1 / 10 to 0 places: - 1", x.digits(less, 0), 0);
        due("- 1 / 10 to 1 place: - 1", x.digits(less, 1), 0);
        due("1", x.digits(x.whole(1), 0), 1);
        due("- 1", x.digits(x.whole(-1), 0), 0);
        due("the most", x.digits(x.whole(Long.MAX_VALUE), 400), 1);
        due("the least", x.digits(x.whole(Long.MIN_VALUE), 400), 0);
    }

    private void digitsOpen() {
        report.sentence("Promise 11: OPEN: not settled; they stay");
        Counted x = new Counted();
        int two = x.whole(2);
        int root = x.root(two);
        int square = x.join(PRODUCT, root, root);
        int open = x.root(x.whole(-1));
        due("before any", x.digits(square, 0), OPEN);
        due("length()", x.length(), 0);
        due("digit(0)", x.digit(0), 0);
        due("digits of root 2", x.digits(root, 8), 1);
        for (int v : new int[] {square, open}) {
            for (int n : new int[] {0, 8, 400}) {
                due("digits(" + v + ", " + n + ")", x.digits(v, n), OPEN);
                due("precision()", x.precision(), 0);
                report.due("they stay", x.digits(), "141421356");
            }
        }
        x.drop(0);
        report.due("they stay when their VALUE is gone", x.digits(), "141421356");
    }

    private void digitFromLowest() {
        report.sentence("Promise 12: from the lowest (0: the n-th place) on, of the number "
            + "without its sign. NONE: i is below 0");
        Counted x = new Counted();
        x.ratio(-9876543210L, 1000);
        due("digits(0, 3)", x.digits(0, 3), 0);
        for (int i = 0; i < 10; i++) {
            due("digit(" + i + ")", x.digit(i), i);
        }
        due("digits(0, 2)", x.digits(0, 2), 0);
        due("digit(0) is the second place", x.digit(0), 1);
        due("digits(0, 4)", x.digits(0, 4), 0);
        due("digit(0) is the fourth place", x.digit(0), 0);
        due("digit(1) is the third", x.digit(1), 0);
        due("digit(2) is the second", x.digit(2), 1);
        for (int wrong : new int[] {LEAST, -1 << 16, -10, -2, -1}) {
            due("digit(" + wrong + ")", x.digit(wrong), NONE);
        }
    }

    private void digitAboveHighest() {
        report.sentence("Promise 12: 0 above the highest");
        Counted x = new Counted();
        long[] all = {0, 7, 99999999, 999999999, 9999999999L, Counted.ten(18) - 1};
        for (long n : all) {
            int v = x.whole(n);
            x.digits(v, 0);
            int length = Long.toString(n).length();
            due("digit(length - 1) of " + n, x.digit(length - 1), n == 0 ? 0 : n == 7 ? 7 : 9);
            for (int i : new int[] {length, length + 1, length + 8, length + 9, 810, MOST}) {
                due("digit(" + i + ") of " + n, x.digit(i), 0);
            }
        }
        Counted fresh = new Counted();
        due("digit(0) before any", fresh.digit(0), 0);
        due("digit(most) before any", fresh.digit(MOST), 0);
        due("digit(-1) before any", fresh.digit(-1), NONE);
    }

    private void lengths() {
        report.sentence("Promise 13: How many digits THE DIGITS have (1 if they are 0; 0 before "
            + "any)");
        Counted x = new Counted();
        due("length() before any", x.length(), 0);
        int zero = x.whole(0);
        due("length() with a VALUE", x.length(), 0);
        x.digits(zero, 0);
        due("length() of 0", x.length(), 1);
        x.digits(zero, 400);
        due("length() of 0 to 400 places", x.length(), 1);
        for (int n : new int[] {1, 2, 8, 9, 10, 17, 18}) {
            x.digits(x.whole(Counted.ten(n) - 1), 0);
            due("length() of 10^" + n + " - 1", x.length(), n);
            x.digits(x.whole(-Counted.ten(n)), 0);
            due("length() of - 10^" + n, x.length(), n + 1);
        }
        x.drop(1);
        x.digits(x.ratio(1, 1000), 2);
        due("length() of 0.001 to 2 places", x.length(), 1);
        x.digits(x.ratio(1, 1000), 4);
        due("length() of 0.001 to 4 places", x.length(), 2);
        x.digits(x.tens(390), 399);
        due("length() of 10^390 to 399 places", x.length(), 790);
    }

    // ---- Promise 16

    private void orderAnswers() {
        report.sentence("Promise 16: 1 if the first is greater, 0 if less");
        Counted x = new Counted();
        long[] all = {Long.MIN_VALUE, Long.MIN_VALUE + 1, -1, 0, 1, Long.MAX_VALUE - 1,
            Long.MAX_VALUE};
        for (long n : all) {
            x.whole(n);
        }
        for (int a = 0; a < all.length; a++) {
            for (int b = 0; b < all.length; b++) {
                due("order(" + a + ", " + b + ")", x.order(a, b), a == b ? OPEN : a > b ? 1 : 0);
                due("precision()", x.precision(), a == b ? 0 : 10);
            }
        }
    }

    private void orderOpen() {
        report.sentence("Promise 16: OPEN: not settled");
        Counted x = new Counted();
        int two = x.whole(2);
        int root = x.root(two);
        int square = x.join(PRODUCT, root, root);
        int open = x.root(x.whole(-1));
        int same = x.ratio(4, 2);
        int[][] pairs = {{two, two}, {two, same}, {two, square}, {square, two}, {root, root},
            {open, two}, {two, open}, {open, open}};
        for (int[] pair : pairs) {
            due("order(root 2, 2)", x.order(root, two), 0);
            due("order(" + pair[0] + ", " + pair[1] + ")", x.order(pair[0], pair[1]), OPEN);
            due("precision()", x.precision(), 0);
        }
    }

    // ---- Promises 17 to 19

    private void howManyQuotients() {
        report.sentence("Promise 17: k of them, 1 .. 40: 1. NONE: k, too");
        Counted x = new Counted();
        x.root(x.whole(2));
        due("quotients(1, 40)", x.quotients(1, 40), 1);
        due("many()", x.many(), 40);
        due("quotient(39)", x.quotient(39), 2);
        due("quotient(40)", x.quotient(40), 0);
        due("quotients(1, 1)", x.quotients(1, 1), 1);
        due("many()", x.many(), 1);
        due("quotient(0)", x.quotient(0), 1);
        due("quotient(1), of those before", x.quotient(1), 0);
        for (int wrong : new int[] {LEAST, -40, -5, -4, -1, 0, 41, 42, 235, 1 << 16, MOST}) {
            due("quotients(1, " + wrong + ")", x.quotients(1, wrong), NONE);
            due("many() stays", x.many(), 1);
            due("precision() stays", x.precision(), 12);
        }
        due("quotients(1, 39)", x.quotients(1, 39), 1);
        due("many()", x.many(), 39);
    }

    private void quotientsOpen() {
        report.sentence("Promise 17: OPEN: not settled; they stay");
        Counted x = new Counted();
        int two = x.whole(2);
        int root = x.root(two);
        int square = x.join(PRODUCT, root, root);
        int open = x.root(x.whole(-1));
        due("before any", x.quotients(square, 1), OPEN);
        due("many()", x.many(), 0);
        due("quotient(0)", x.quotient(0), 0);
        due("quotients of root 2", x.quotients(root, 3), 1);
        int[][] rows = {{square, 1}, {square, 40}, {open, 1}, {two, 2}, {two, 40}};
        for (int[] row : rows) {
            due("quotients(" + row[0] + ", " + row[1] + ")", x.quotients(row[0], row[1]), OPEN);
            due("precision()", x.precision(), 0);
            report.due("they stay", x.quotients(), "1 2 2");
        }
        x.drop(0);
        report.due("they stay when their VALUE is gone", x.quotients(), "1 2 2");
    }

    private void quotientAt() {
        report.sentence("Promise 18: Quotient i of these; 0 when there is none");
        Counted x = new Counted();
        for (int i : new int[] {LEAST, -1, 0, 1, 39, 40, MOST}) {
            due("quotient(" + i + ") before any", x.quotient(i), 0);
        }
        due("quotients of e", x.quotients(x.power(1, 1), 40), 1);
        due("quotient(0)", x.quotient(0), 2);
        due("quotient(38)", x.quotient(38), 26);
        due("quotient(39)", x.quotient(39), 1);
        for (int i : new int[] {LEAST, -40, -1, 40, 41, 1 << 16, MOST}) {
            due("quotient(" + i + ")", x.quotient(i), 0);
        }
        due("quotients of e", x.quotients(0, 6), 1);
        due("quotient(5)", x.quotient(5), 4);
        due("quotient(6)", x.quotient(6), 0);
        due("quotient(38)", x.quotient(38), 0);
    }

    private void quotientShown() {
        report.sentence("Promise 18: 2^62 if it is that or more, - 2^62 if it is that or less");
        Counted x = new Counted();
        long[] given = {SHOWN - 1, SHOWN, SHOWN + 1, Long.MAX_VALUE - 1, Long.MAX_VALUE,
            1 - SHOWN, -SHOWN, -1 - SHOWN, Long.MIN_VALUE + 1, Long.MIN_VALUE,
            Counted.ten(18) - 1, Counted.ten(18), -Counted.ten(18), 0};
        for (long n : given) {
            due("quotients(" + n + ", 1)", x.quotients(x.whole(n), 1), 1);
            due("quotient(0)", x.quotient(0), Math.max(-SHOWN, Math.min(SHOWN, n)));
        }
        due("2^62 - 1 / 2", x.quotients(x.ratio(Long.MAX_VALUE, 2), 1), 1);
        due("quotient(0)", x.quotient(0), SHOWN - 1);
        due("1 / 2 - 2^62", x.quotients(x.ratio(-Long.MAX_VALUE, 2), 1), 1);
        due("quotient(0)", x.quotient(0), -SHOWN);
        due("3 / 2 - 2^62", x.quotients(x.ratio(2 - Long.MAX_VALUE, 2), 1), 1);
        due("quotient(0)", x.quotient(0), 1 - SHOWN);
        int large = x.tens(400);
        due("10^400", x.quotients(large, 1), 1);
        due("quotient(0)", x.quotient(0), SHOWN);
        due("- 10^400", x.quotients(x.minus(large), 1), 1);
        due("quotient(0)", x.quotient(0), -SHOWN);
    }

    private void quotientShownLater() {
        report.sentence("Promise 18: 2^62 if it is that or more, of those after the first");
        Counted x = new Counted();
        due("2 / (2^63 - 1)", x.quotients(x.ratio(2, Long.MAX_VALUE), 2), 1);
        report.due("they", x.quotients(), "0 " + (SHOWN - 1));
        due("1 / 2^62", x.quotients(x.ratio(1, SHOWN), 2), 1);
        report.due("they", x.quotients(), "0 " + SHOWN);
        int more = x.join(SUM, x.whole(Long.MAX_VALUE), x.whole(2));
        due("2 / (2^63 + 1)", x.quotients(x.join(QUOTIENT, x.whole(2), more), 2), 1);
        report.due("they", x.quotients(), "0 " + SHOWN);
        due("10^-100", x.quotients(x.tenth(100), 2), 1);
        report.due("they", x.quotients(), "0 " + SHOWN);
        due("2^62 and 2^62 + 1 are shown alike, but are not the same",
            x.quotients(x.ratio(1, SHOWN + 1), 2), OPEN);
        report.due("they stay", x.quotients(), "0 " + SHOWN);
    }

    private void many() {
        report.sentence("Promise 19: How many QUOTIENTS there are");
        Counted x = new Counted();
        due("many() before any", x.many(), 0);
        int e = x.power(1, 1);
        for (int k = 1; k <= 40; k++) {
            due("quotients(e, " + k + ")", x.quotients(e, k), 1);
            due("many()", x.many(), k);
        }
        due("quotients(e, 41)", x.quotients(e, 41), NONE);
        due("many()", x.many(), 40);
        due("quotients(1, 2)", x.quotients(x.whole(1), 2), OPEN);
        due("many()", x.many(), 40);
        due("quotients(1, 1)", x.quotients(1, 1), 1);
        due("many()", x.many(), 1);
        x.drop(0);
        due("many() of none", x.many(), 1);
    }

    // ---- Promise 20

    private void precisionBeforeAny() {
        report.sentence("Terms: THE PRECISION: 0 .. before any");
        Counted x = new Counted();
        due("precision()", x.precision(), 0);
        x.whole(7);
        due("precision() with a VALUE", x.precision(), 0);
        x.enclose(0, 30);
        due("precision() after enclose", x.precision(), 0);
        x.digits(1, 0);
        x.order(0, 1);
        x.quotients(0, 41);
        due("precision() after NONE", x.precision(), 0);
        x.digits(0, 0);
        due("precision() of the first", x.precision(), 10);
    }

    private void precisionOfLatest() {
        report.sentence("Terms: THE PRECISION of what was asked latest is that at which it was "
            + "settled; 0 if it was not");
        Counted x = new Counted();
        x.whole(7);
        x.whole(8);
        x.digits(0, 5);
        due("of digits", x.precision(), 15);
        x.order(0, 1);
        due("of order", x.precision(), 10);
        x.quotients(0, 1);
        due("of quotients", x.precision(), 12);
        x.order(0, 0);
        due("of order, not settled", x.precision(), 0);
        x.digits(0, 400);
        due("of digits", x.precision(), 410);
        x.quotients(0, 2);
        due("of quotients, not settled", x.precision(), 0);
        x.quotients(0, 1);
        due("of quotients", x.precision(), 12);
        x.digits(x.root(x.whole(-1)), 0);
        due("of digits, not settled", x.precision(), 0);
    }

    private void precisionNotOfNone() {
        report.sentence("Terms: THE PRECISION of what was asked latest (digits(), order(), "
            + "quotients(), but with NONE)");
        Counted x = new Counted();
        x.whole(7);
        x.digits(0, 5);
        int[][] wrong = {{-1, 0}, {1, 0}};
        for (int[] pair : wrong) {
            due("digits", x.digits(pair[0], 0), NONE);
            due("order", x.order(pair[0], 0), NONE);
            due("order", x.order(0, pair[0]), NONE);
            due("quotients", x.quotients(pair[0], 1), NONE);
            due("precision()", x.precision(), 15);
        }
        due("digits(0, -1)", x.digits(0, -1), NONE);
        due("precision()", x.precision(), 15);
        due("digits(0, 401)", x.digits(0, 401), NONE);
        due("precision()", x.precision(), 15);
        due("quotients(0, 0)", x.quotients(0, 0), NONE);
        due("precision()", x.precision(), 15);
        due("quotients(0, 41)", x.quotients(0, 41), NONE);
        due("precision()", x.precision(), 15);
        x.enclose(0, 77);
        x.root(0);
        x.drop(0);
        due("precision() after what is not asked", x.precision(), 15);
        x.whole(7);
        due("not settled", x.order(0, 0), OPEN);
        due("NONE after it", x.digits(5, 0), NONE);
        due("precision() stays 0", x.precision(), 0);
    }

    // ---- What it is

    /** Makes, asks and drops till only so many calls are left, and there are no VALUES. */
    private static Counted worn(int left) {
        Counted x = new Counted();
        for (int i = 1; x.left() > left + 9; i++) {
            x.power(i % 2 == 0 ? 5 : -5, 1 + i);
            x.arctan(1 + i);
            x.join(i % 4, 0, 1);
            x.root(2);
            x.digits(3, 4 * i);
            x.quotients(2, 1 + i % 40);
            x.order(3, 2);
            x.enclose(3, 8 * i);
            x.drop(0);
        }
        while (x.left() > left) {
            x.drop(0);
        }
        return x;
    }

    private void lastCalls() {
        report.sentence("What it is: An object is used for at most 512 calls");
        Counted x = worn(3);
        x.power(1, 1);
        x.digits(0, 400);
        due("digit(400) as call 512", x.digit(400), 2);
        x = worn(3);
        x.artanh(100000);
        x.enclose(0, 480);
        due("bound(0, 475) as call 512", x.bound(0, 475), 1);
        x = worn(3);
        x.power(1, 1);
        x.quotients(0, 40);
        due("quotient(38) as call 512", x.quotient(38), 26);
        x = worn(3);
        x.whole(7);
        x.power(2, 1);
        due("order as call 512", x.order(1, 0), 1);
        x = worn(60);
        for (int i = 0; i < 59; i++) {
            x.whole(i);
        }
        due("whole(59) as call 512", x.whole(59), 59);
        due("calls left", x.left(), 0);
        x = worn(61);
        for (int i = 0; i < 60; i++) {
            x.whole(i);
        }
        due("whole(60) as call 512", x.whole(60), EnclosedDigits.FULL);
    }
}
