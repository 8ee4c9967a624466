/** The sentences on ENCLOSURES and on promises 14 and 15 that name a boundary, from both sides. */
public final class EnclosuresBoundariesTest {
    private static final int NONE = EnclosedDigits.NONE;
    private static final int OPEN = EnclosedDigits.OPEN;
    private static final int LEAST = Integer.MIN_VALUE;
    private static final int MOST = Integer.MAX_VALUE;
    private static final int SUM = 0;
    private static final int DIFFERENCE = 1;
    private static final int PRODUCT = 2;
    private static final int QUOTIENT = 3;

    private final Report report = new Report();

    public static void main(String[] args) {
        EnclosuresBoundariesTest test = new EnclosuresBoundariesTest();
        test.precisions();
        test.whole();
        test.ratioOfWholeUnits();
        test.ratioBesideWholeUnits();
        test.seriesBesideWholeUnits();
        test.seriesFromFineToCoarse();
        test.seriesOfTheirRanges();
        test.oneMore();
        test.rootOpen();
        test.rootOfLowBelowZero();
        test.rootNotAbove();
        test.rootNotBelow();
        test.sums();
        test.productRounded();
        test.productOfFour();
        test.quotientOpen();
        test.quotientRounded();
        test.quotientOfFour();
        test.madeOfOpen();
        test.openAtOneOnly();
        test.sumOf801();
        test.onlyOneEndOf801();
        test.productOf801();
        test.quotientOf801();
        test.rootOfLong();
        test.madeOf801();
        test.encloseAnswers();
        test.boundBeforeAny();
        test.boundWhich();
        test.boundDigits();
        test.boundSigns();
        test.boundOfLatest();
        test.report.end();
    }

    private void due(String call, long got, long want) {
        report.due(call, got, want);
    }

    /** Reads no more digits than tell, since each is a call: some above what is due. */
    private void ends(Counted x, int v, int p, String want) {
        int width = (want.length() + 1) / 2 + 1;
        report.due("ends of " + v + " at " + p, x.ends(v, p, width), want);
    }

    /** At 1, L is minus below and H is above: a hundredth is between 0 and 1 units there. */
    private static int around(Counted x, int below, int above) {
        int sum = x.whole(0);
        int less = x.ratio(-1, 100);
        int more = x.ratio(1, 100);
        for (int i = 0; i < below; i++) {
            sum = x.join(SUM, sum, less);
        }
        for (int i = 0; i < above; i++) {
            sum = x.join(SUM, sum, more);
        }
        return sum;
    }

    // ---- Promise 14, and what is made of no VALUES

    private void precisions() {
        report.sentence("Promise 14: at p, 1 .. 480. NONE: p");
        Counted x = new Counted();
        x.ratio(1, 3);
        for (int wrong : new int[] {LEAST, -480, -1, 0, 481, 960, 1 << 16, MOST}) {
            due("enclose(0, " + wrong + ")", x.enclose(0, wrong), NONE);
        }
        due("bound before any", x.bound(1, 0), 0);
        ends(x, 0, 1, "3 4");
        ends(x, 0, 2, "33 34");
        due("enclose(0, 479)", x.enclose(0, 479), 1);
        due("its highest", x.bound(0, 478), 3);
        due("above it", x.bound(0, 479), 0);
        due("enclose(0, 480)", x.enclose(0, 480), 1);
        due("its highest", x.bound(0, 479), 3);
        due("above it", x.bound(0, 480), 0);
        due("H's lowest", x.bound(1, 0), 4);
        due("enclose(0, 481)", x.enclose(0, 481), NONE);
        due("it stays", x.bound(0, 479), 3);
    }

    private void whole() {
        report.sentence("Terms: WHOLE: both n 10^p");
        Counted x = new Counted();
        x.whole(0);
        ends(x, 0, 1, "0 0");
        ends(x, 0, 480, "0 0");
        x.whole(-1);
        ends(x, 1, 9, "-1000000000 -1000000000");
        ends(x, 1, 18, "-1000000000000000000 -1000000000000000000");
        long[] far = {Long.MIN_VALUE, Long.MAX_VALUE};
        for (int i = 0; i < 2; i++) {
            due("whole", x.whole(far[i]), i + 2);
            ends(x, i + 2, 1, far[i] + "0 " + far[i] + "0");
            due("at 480", x.enclose(i + 2, 480), 1);
            for (int which = 0; which < 2; which++) {
                due("sign", x.bound(which, -1), 2 * i - 1);
                due("highest digit", x.bound(which, 498), 9);
                due("above it", x.bound(which, 499), 0);
                due("lowest of n", x.bound(which, 480), 8 - i);
                due("below n", x.bound(which, 479), 0);
            }
        }
    }

    private void ratioOfWholeUnits() {
        report.sentence("Terms: of a RATIO that is a whole number of units, both the same");
        Counted x = new Counted();
        x.ratio(1, 1000000000);
        ends(x, 0, 8, "0 1");
        ends(x, 0, 9, "1 1");
        ends(x, 0, 10, "10 10");
        x.ratio(-1, 1000000000);
        ends(x, 1, 8, "-1 0");
        ends(x, 1, 9, "-1 -1");
        x.ratio(1, 1024);
        ends(x, 2, 9, "976562 976563");
        ends(x, 2, 10, "9765625 9765625");
        x.ratio(1, -1024);
        ends(x, 3, 9, "-976563 -976562");
        ends(x, 3, 10, "-9765625 -9765625");
        x.ratio(0, 7);
        ends(x, 4, 1, "0 0");
        x.ratio(-6, -3);
        ends(x, 5, 1, "20 20");
        x.ratio(3, 6);
        ends(x, 6, 1, "5 5");
        x.ratio(Long.MIN_VALUE, Long.MIN_VALUE);
        ends(x, 7, 1, "10 10");
        x.ratio(Long.MIN_VALUE, -1);
        ends(x, 8, 1, "92233720368547758080 92233720368547758080");
    }

    private void ratioBesideWholeUnits() {
        report.sentence("Terms: L is the greatest whole number of units not above it, "
            + "H the least one not below");
        Counted x = new Counted();
        long ten = Counted.ten(18);
        x.ratio(ten - 1, ten);
        ends(x, 0, 1, "9 10");
        ends(x, 0, 17, "99999999999999999 100000000000000000");
        ends(x, 0, 18, "999999999999999999 999999999999999999");
        x.ratio(ten + 1, ten);
        ends(x, 1, 1, "10 11");
        ends(x, 1, 17, "100000000000000000 100000000000000001");
        x.ratio(-ten - 1, ten);
        ends(x, 2, 1, "-11 -10");
        x.ratio(1 - ten, ten);
        ends(x, 3, 1, "-10 -9");
        x.ratio(1, Long.MIN_VALUE);
        ends(x, 4, 1, "-1 0");
        ends(x, 4, 18, "-1 0");
        ends(x, 4, 19, "-2 -1");
        x.ratio(Long.MAX_VALUE, Long.MIN_VALUE);
        ends(x, 5, 1, "-10 -9");
        x.ratio(-1, 3);
        ends(x, 6, 9, "-333333334 -333333333");
        x.ratio(2, 3);
        ends(x, 7, 9, "666666666 666666667");
    }

    /** arctan 1/100000 is a little below a whole number of units at 5 to 15, artanh a little above. */
    private void seriesBesideWholeUnits() {
        report.sentence("Terms: All others that are made of no VALUES: L is the greatest "
            + "whole number of units not above it, H the least one not below");
        Counted x = new Counted();
        x.arctan(100000);
        ends(x, 0, 4, "0 1");
        ends(x, 0, 5, "0 1");
        ends(x, 0, 6, "9 10");
        ends(x, 0, 15, "9999999999 10000000000");
        ends(x, 0, 16, "99999999996 99999999997");
        x.artanh(100000);
        ends(x, 1, 4, "0 1");
        ends(x, 1, 5, "1 2");
        ends(x, 1, 6, "10 11");
        ends(x, 1, 15, "10000000000 10000000001");
        ends(x, 1, 16, "100000000003 100000000004");
        x.power(-1, 1000);
        ends(x, 2, 1, "9 10");
        ends(x, 2, 3, "999 1000");
        ends(x, 2, 6, "999000 999001");
        ends(x, 2, 7, "9990004 9990005");
        x.power(1, 1000);
        ends(x, 3, 2, "100 101");
        ends(x, 3, 3, "1001 1002");
        ends(x, 3, 9, "1001000500 1001000501");
    }

    private void seriesFromFineToCoarse() {
        report.sentence("Terms: The enclosure of a VALUE at p: the same after one at a finer p");
        Counted x = new Counted();
        x.arctan(100000);
        x.artanh(100000);
        for (int v = 0; v < 2; v++) {
            due("enclose(" + v + ", 480)", x.enclose(v, 480), 1);
        }
        ends(x, 0, 16, "99999999996 99999999997");
        ends(x, 0, 15, "9999999999 10000000000");
        ends(x, 0, 6, "9 10");
        ends(x, 0, 5, "0 1");
        ends(x, 0, 1, "0 1");
        ends(x, 1, 16, "100000000003 100000000004");
        ends(x, 1, 15, "10000000000 10000000001");
        ends(x, 1, 5, "1 2");
        ends(x, 1, 4, "0 1");
        x.power(-5, 1);
        due("enclose(2, 480)", x.enclose(2, 480), 1);
        ends(x, 2, 3, "6 7");
        ends(x, 2, 2, "0 1");
        ends(x, 2, 3, "6 7");
    }

    private void seriesOfTheirRanges() {
        report.sentence("Terms: the least and the greatest x, a, b");
        Counted x = new Counted();
        x.arctan(2);
        ends(x, 0, 1, "4 5");
        ends(x, 0, 18, "463647609000806116 463647609000806117");
        x.artanh(2);
        ends(x, 1, 1, "5 6");
        ends(x, 1, 18, "549306144334054845 549306144334054846");
        x.arctan(99999);
        ends(x, 2, 20, "1000010000066666 1000010000066667");
        x.artanh(99999);
        ends(x, 3, 20, "1000010000133335 1000010000133336");
        x.power(5, 1);
        ends(x, 4, 1, "1484 1485");
        ends(x, 4, 12, "148413159102576 148413159102577");
        x.power(-5, 1);
        ends(x, 5, 2, "0 1");
        ends(x, 5, 3, "6 7");
        ends(x, 5, 18, "6737946999085467 6737946999085468");
        x.power(4999, 1000);
        ends(x, 6, 9, "148264820125 148264820126");
        x.power(-4999, 1000);
        ends(x, 7, 9, "6744688 6744689");
    }

    private void oneMore() {
        report.sentence("Terms: H the least one not below (one more)");
        Counted x = new Counted();
        x.arctan(7);
        x.artanh(100000);
        x.power(-5, 1);
        x.power(5000, 1000);
        for (int v = 0; v < 4; v++) {
            for (int p : new int[] {1, 9, 17, 480}) {
                due("enclose(" + v + ", " + p + ")", x.enclose(v, p), 1);
                int low = x.bound(0, 0) + 10 * x.bound(0, 1) + 100 * x.bound(0, 2);
                int high = x.bound(1, 0) + 10 * x.bound(1, 1) + 100 * x.bound(1, 2);
                due("H less L of " + v + " at " + p, (high - low + 1000) % 1000, 1);
            }
        }
    }

    // ---- ROOT

    private void rootOpen() {
        report.sentence("Terms: ROOT: OPEN if H is below 0");
        Counted x = new Counted();
        x.ratio(-1, 1000);
        x.root(0);
        ends(x, 0, 2, "-1 0");
        ends(x, 1, 2, "0 0");
        ends(x, 0, 3, "-1 -1");
        ends(x, 1, 3, "OPEN");
        x.whole(0);
        x.root(2);
        ends(x, 3, 480, "0 0");
        x.ratio(-15, 10000);
        x.root(4);
        ends(x, 4, 3, "-2 -1");
        ends(x, 5, 3, "OPEN");
    }

    private void rootOfLowBelowZero() {
        report.sentence("Terms: ROOT: (0 if L is below 0)");
        Counted x = new Counted();
        int wide = around(x, 2, 4);
        int root = x.root(wide);
        ends(x, wide, 1, "-2 4");
        ends(x, root, 1, "0 7");
        int narrow = around(x, 0, 4);
        int other = x.root(narrow);
        ends(x, narrow, 1, "0 4");
        ends(x, other, 1, "0 7");
        int above = x.join(SUM, narrow, x.ratio(1, 10));
        int last = x.root(above);
        ends(x, above, 1, "1 5");
        ends(x, last, 1, "3 8");
    }

    private void rootNotAbove() {
        report.sentence("Terms: ROOT: L is the greatest whole number whose square is not above "
            + "L 10^p");
        Counted x = new Counted();
        x.ratio(8, 10);
        x.root(0);
        ends(x, 1, 1, "8 9");
        x.whole(1);
        x.root(2);
        ends(x, 3, 1, "10 10");
        x.ratio(1, 10);
        x.root(4);
        ends(x, 5, 1, "3 4");
        x.ratio(24, 100);
        x.root(6);
        ends(x, 7, 2, "48 49");
        x.ratio(21, 20);
        x.root(8);
        ends(x, 8, 1, "10 11");
        ends(x, 9, 1, "10 11");
        x.whole(Long.MAX_VALUE);
        x.root(10);
        ends(x, 11, 1, "30370004999 30370005000");
        x.whole(3037000499L * 3037000499L);
        x.root(12);
        ends(x, 13, 1, "30370004990 30370004990");
        x.whole(3037000499L * 3037000499L - 1);
        x.root(14);
        ends(x, 15, 1, "30370004989 30370004990");
    }

    private void rootNotBelow() {
        report.sentence("Terms: ROOT: H the least one whose square is not below H 10^p");
        Counted x = new Counted();
        x.ratio(19, 20);
        x.root(0);
        ends(x, 0, 1, "9 10");
        ends(x, 1, 1, "9 10");
        x.ratio(17, 20);
        x.root(2);
        ends(x, 2, 1, "8 9");
        ends(x, 3, 1, "8 10");
        x.whole(3037000499L * 3037000499L + 1);
        x.root(4);
        ends(x, 5, 1, "30370004990 30370004991");
        x.whole(4);
        x.root(6);
        ends(x, 7, 1, "20 20");
    }

    // ---- JOINED

    private void sums() {
        report.sentence("Terms: Sum: L + L, H + H. Difference: the first one's L less the "
            + "second one's H, H less L");
        Counted x = new Counted();
        int wide = around(x, 2, 3);
        int other = around(x, 1, 5);
        ends(x, x.join(SUM, wide, other), 1, "-3 8");
        ends(x, x.join(DIFFERENCE, wide, other), 1, "-7 4");
        ends(x, x.join(DIFFERENCE, other, wide), 1, "-4 7");
        ends(x, x.join(DIFFERENCE, wide, wide), 1, "-5 5");
        int whole = x.whole(9);
        ends(x, x.join(DIFFERENCE, whole, whole), 480, "0 0");
        ends(x, x.join(SUM, whole, wide), 1, "88 93");
    }

    private void productRounded() {
        report.sentence("Terms: Product: divided by 10^p, rounded down, and up");
        Counted x = new Counted();
        int tenth = x.ratio(1, 10);
        int less = x.ratio(-1, 10);
        int half = x.ratio(5, 10);
        int fifth = x.ratio(2, 10);
        int none = x.whole(0);
        ends(x, x.join(PRODUCT, tenth, tenth), 1, "0 1");
        ends(x, x.join(PRODUCT, tenth, tenth), 2, "1 1");
        ends(x, x.join(PRODUCT, tenth, less), 1, "-1 0");
        ends(x, x.join(PRODUCT, tenth, less), 2, "-1 -1");
        ends(x, x.join(PRODUCT, less, less), 1, "0 1");
        ends(x, x.join(PRODUCT, half, fifth), 1, "1 1");
        ends(x, x.join(PRODUCT, half, half), 1, "2 3");
        ends(x, x.join(PRODUCT, half, none), 1, "0 0");
        int nines = x.whole(Long.MAX_VALUE);
        ends(x, x.join(PRODUCT, nines, less), 1, "-9223372036854775807 -9223372036854775807");
    }

    private void productOfFour() {
        report.sentence("Terms: Product: the least and the greatest of the four products");
        Counted x = new Counted();
        int wide = around(x, 2, 3);
        int other = around(x, 4, 1);
        int third = around(x, 3, 5);
        int above = x.ratio(35, 100);
        int below = x.ratio(-35, 100);
        ends(x, x.join(PRODUCT, wide, other), 1, "-2 1");
        ends(x, x.join(PRODUCT, other, third), 1, "-2 2");
        ends(x, x.join(PRODUCT, wide, third), 1, "-1 2");
        ends(x, x.join(PRODUCT, above, above), 1, "0 2");
        ends(x, x.join(PRODUCT, below, below), 1, "0 2");
        ends(x, x.join(PRODUCT, above, below), 1, "-2 0");
        ends(x, x.join(PRODUCT, wide, above), 1, "-1 2");
        ends(x, x.join(PRODUCT, below, third), 1, "-2 2");
        int two = x.whole(2);
        int less = x.whole(-2);
        ends(x, x.join(PRODUCT, above, two), 1, "6 8");
        ends(x, x.join(PRODUCT, two, above), 1, "6 8");
        ends(x, x.join(PRODUCT, above, less), 1, "-8 -6");
        ends(x, x.join(PRODUCT, less, above), 1, "-8 -6");
    }

    private void quotientOpen() {
        report.sentence("Terms: Quotient: OPEN if the second one's L is 0 or below and its H "
            + "0 or above");
        Counted x = new Counted();
        int one = x.whole(1);
        int[][] open = {{0, 0}, {0, 1}, {1, 0}, {1, 1}};
        for (int[] row : open) {
            int by = around(x, row[0], row[1]);
            ends(x, by, 1, (row[0] == 0 ? "0" : "-1") + " " + row[1]);
            ends(x, x.join(QUOTIENT, one, by), 1, "OPEN");
            x.drop(1);
        }
        ends(x, x.join(QUOTIENT, one, x.ratio(1, 10)), 1, "100 100");
        ends(x, x.join(QUOTIENT, one, x.ratio(-1, 10)), 1, "-100 -100");
        ends(x, x.join(QUOTIENT, one, x.ratio(15, 100)), 1, "50 100");
        ends(x, x.join(QUOTIENT, one, x.ratio(-15, 100)), 1, "-100 -50");
        int none = x.whole(0);
        ends(x, x.join(QUOTIENT, none, none), 480, "OPEN");
        ends(x, x.join(QUOTIENT, none, one), 1, "0 0");
    }

    private void quotientRounded() {
        report.sentence("Terms: Quotient: rounded down, and up (each quotient as it is; the "
            + "least is rounded down, the greatest up)");
        Counted x = new Counted();
        int one = x.whole(1);
        int less = x.whole(-1);
        int three = x.whole(3);
        int four = x.whole(4);
        ends(x, x.join(QUOTIENT, one, three), 1, "3 4");
        ends(x, x.join(QUOTIENT, less, three), 1, "-4 -3");
        ends(x, x.join(QUOTIENT, one, four), 1, "2 3");
        ends(x, x.join(QUOTIENT, one, four), 2, "25 25");
        ends(x, x.join(QUOTIENT, less, four), 1, "-3 -2");
        ends(x, x.join(QUOTIENT, less, four), 2, "-25 -25");
        ends(x, x.join(QUOTIENT, three, three), 1, "10 10");
        int most = x.whole(Long.MAX_VALUE);
        ends(x, x.join(QUOTIENT, one, most), 18, "0 1");
        ends(x, x.join(QUOTIENT, one, most), 19, "1 2");
        ends(x, x.join(QUOTIENT, less, most), 18, "-1 0");
    }

    private void quotientOfFour() {
        report.sentence("Terms: Quotient: the least and greatest of the four quotients");
        Counted x = new Counted();
        int above = x.ratio(35, 100);
        int below = x.ratio(-35, 100);
        int wide = around(x, 1, 2);
        int one = x.whole(1);
        ends(x, x.join(QUOTIENT, one, above), 1, "25 34");
        ends(x, x.join(QUOTIENT, one, below), 1, "-34 -25");
        ends(x, x.join(QUOTIENT, above, above), 1, "7 14");
        ends(x, x.join(QUOTIENT, below, above), 1, "-14 -7");
        ends(x, x.join(QUOTIENT, below, below), 1, "7 14");
        ends(x, x.join(QUOTIENT, wide, above), 1, "-4 7");
        ends(x, x.join(QUOTIENT, wide, below), 1, "-7 4");
        int half = x.ratio(1, 2);
        int less = x.ratio(-1, 2);
        ends(x, x.join(QUOTIENT, above, half), 1, "6 8");
        ends(x, x.join(QUOTIENT, above, less), 1, "-8 -6");
        ends(x, x.join(QUOTIENT, half, above), 1, "12 17");
        ends(x, x.join(QUOTIENT, less, above), 1, "-17 -12");
    }

    // ---- OPEN

    private void madeOfOpen() {
        report.sentence("Terms: What is made of an OPEN one is OPEN");
        Counted x = new Counted();
        int less = x.whole(-1);
        int one = x.whole(1);
        int open = x.root(less);
        ends(x, open, 7, "OPEN");
        ends(x, x.root(open), 7, "OPEN");
        ends(x, x.root(one), 7, "10000000 10000000");
        for (int op = SUM; op <= QUOTIENT; op++) {
            ends(x, x.join(op, open, one), 7, "OPEN");
            ends(x, x.join(op, one, open), 7, "OPEN");
            ends(x, x.join(op, open, open), 7, "OPEN");
            int made = x.join(op, x.join(op, one, open), one);
            ends(x, made, 7, "OPEN");
        }
        int none = x.whole(0);
        ends(x, x.join(PRODUCT, none, open), 7, "OPEN");
        ends(x, x.join(QUOTIENT, none, open), 7, "OPEN");
    }

    private void openAtOneOnly() {
        report.sentence("Terms: The enclosure of a VALUE at p .. or it has none, it is OPEN");
        Counted x = new Counted();
        int one = x.whole(1);
        int small = x.ratio(1, 1000);
        int by = x.join(QUOTIENT, one, small);
        int made = x.join(SUM, by, one);
        for (int i = 0; i < 2; i++) {
            ends(x, made, 2, "OPEN");
            ends(x, by, 2, "OPEN");
            ends(x, made, 3, "1001000 1001000");
            ends(x, by, 3, "1000000 1000000");
            ends(x, made, 2, "OPEN");
            ends(x, by, 3, "1000000 1000000");
        }
    }

    /** Digits 799 and 800 from the lowest on: what the longest enclosure has and has not. */
    private void has800(Counted x, int v, int p, int sign, int highest) {
        due("enclose(" + v + ", " + p + ")", x.enclose(v, p), 1);
        for (int which = 0; which < 2; which++) {
            due("sign", x.bound(which, -1), sign);
            due("digit 799", x.bound(which, 799), highest);
            due("digit 800", x.bound(which, 800), 0);
        }
    }

    private void sumOf801() {
        report.sentence("Terms: so is what would have an L or H of more than 800 digits: sums");
        Counted x = new Counted();
        int large = x.tens(575);
        int nine = x.join(PRODUCT, large, x.whole(9));
        int sum = x.join(SUM, nine, large);
        int less = x.minus(nine);
        int difference = x.join(DIFFERENCE, less, large);
        has800(x, large, 224, 1, 1);
        has800(x, nine, 224, 1, 9);
        ends(x, sum, 224, "OPEN");
        has800(x, sum, 223, 1, 1);
        ends(x, difference, 224, "OPEN");
        has800(x, difference, 223, -1, 1);
        ends(x, large, 225, "OPEN");
    }

    /** 10^576 with one unit less in L only, or in both; and the opposites of these. */
    private void onlyOneEndOf801() {
        report.sentence("Terms: so is what would have an L or H of more than 800 digits");
        Counted x = new Counted();
        int large = x.tens(575);
        int nine = x.join(PRODUCT, large, x.whole(9));
        int unit = x.tenth(224);
        int part = x.tenth(225);
        ends(x, unit, 224, "1 1");
        ends(x, part, 224, "0 1");
        int nearly = x.join(DIFFERENCE, large, part);
        ends(x, x.join(SUM, nine, nearly), 224, "OPEN");
        int opposite = x.minus(nine);
        int nearlyBelow = x.minus(nearly);
        ends(x, x.join(DIFFERENCE, opposite, nearly), 224, "OPEN");
        ends(x, x.join(SUM, opposite, nearlyBelow), 224, "OPEN");
        ends(x, x.join(DIFFERENCE, nine, nearlyBelow), 224, "OPEN");
        int ten = x.whole(10);
        int tenth = x.ratio(1, 10);
        for (int v : new int[] {nearly, nearlyBelow}) {
            due("enclose of 800 digits", x.enclose(v, 224), 1);
            ends(x, x.join(PRODUCT, v, ten), 224, "OPEN");
            ends(x, x.join(QUOTIENT, v, tenth), 224, "OPEN");
        }
        int below = x.join(DIFFERENCE, large, unit);
        int last = x.join(SUM, nine, below);
        has800(x, last, 224, 1, 9);
        due("its lowest digit", x.bound(0, 0), 9);
        int lastBelow = x.join(DIFFERENCE, opposite, below);
        has800(x, lastBelow, 224, -1, 9);
        has800(x, x.join(PRODUCT, below, ten), 224, 1, 9);
        has800(x, x.join(QUOTIENT, below, tenth), 224, 1, 9);
        int wide = x.join(SUM, last, part);
        ends(x, wide, 224, "OPEN");
        int wideBelow = x.join(DIFFERENCE, lastBelow, part);
        ends(x, wideBelow, 224, "OPEN");
    }

    private void productOf801() {
        report.sentence("Terms: so is what would have an L or H of more than 800 digits: "
            + "products");
        Counted x = new Counted();
        int large = x.tens(360);
        int product = x.join(PRODUCT, large, large);
        has800(x, product, 79, 1, 1);
        ends(x, product, 80, "OPEN");
        int opposite = x.join(PRODUCT, large, x.minus(large));
        has800(x, opposite, 79, -1, 1);
        ends(x, opposite, 80, "OPEN");
        // It has 1111 digits before it is divided by 10^p, but only 711 after.
        int divided = x.join(PRODUCT, large, x.tenth(50));
        due("enclose(" + divided + ", 400)", x.enclose(divided, 400), 1);
        due("its highest digit", x.bound(1, 710), 1);
        due("above it", x.bound(1, 711), 0);
    }

    private void quotientOf801() {
        report.sentence("Terms: so is what would have an L or H of more than 800 digits: "
            + "quotients");
        Counted x = new Counted();
        int large = x.tens(360);
        int small = x.tenth(100);
        int quotient = x.join(QUOTIENT, large, small);
        has800(x, quotient, 339, 1, 1);
        ends(x, quotient, 340, "OPEN");
        int opposite = x.join(QUOTIENT, large, x.minus(small));
        has800(x, opposite, 339, -1, 1);
        ends(x, opposite, 340, "OPEN");
    }

    private void rootOfLong() {
        report.sentence("Terms: ROOT of the longest L, H");
        Counted x = new Counted();
        int large = x.tens(320);
        int root = x.root(large);
        due("enclose at 479", x.enclose(root, 479), 1);
        due("highest digit", x.bound(0, 639), 1);
        due("above it", x.bound(1, 640), 0);
        ends(x, root, 480, "OPEN");
        ends(x, large, 480, "OPEN");
        has800(x, large, 479, 1, 1);
    }

    private void madeOf801() {
        report.sentence("Terms: What is made of an OPEN one is OPEN, though itself it is short");
        Counted x = new Counted();
        int large = x.tens(576);
        int small = x.tenth(300);
        int[] made = {x.join(DIFFERENCE, large, large), x.join(QUOTIENT, large, large),
            x.join(QUOTIENT, small, large), x.join(PRODUCT, small, large), x.root(large)};
        for (int v : made) {
            due("enclose at 223", x.enclose(v, 223), 1);
            due("enclose at 224", x.enclose(v, 224), OPEN);
        }
    }

    // ---- Promises 14 and 15

    private void encloseAnswers() {
        report.sentence("Promise 14: The enclosure of a VALUE at p: 1; OPEN");
        Counted x = new Counted();
        x.whole(0);
        x.whole(-1);
        x.root(1);
        x.root(0);
        due("of 0", x.enclose(0, 1), 1);
        due("of - 1", x.enclose(1, 1), 1);
        due("of the root of - 1", x.enclose(2, 1), OPEN);
        due("of the root of 0", x.enclose(3, 1), 1);
        due("of the root of - 1 at 480", x.enclose(2, 480), OPEN);
        due("of the root of - 1 at 481", x.enclose(2, 481), NONE);
    }

    private void boundBeforeAny() {
        report.sentence("Promise 15: 0 before any");
        Counted x = new Counted();
        x.whole(-7);
        x.root(0);
        due("enclose of an OPEN one", x.enclose(1, 3), OPEN);
        due("enclose at 0", x.enclose(0, 0), NONE);
        x.digits(0, 0);
        x.order(0, 0);
        x.quotients(0, 1);
        for (int which = 0; which < 2; which++) {
            for (int i : new int[] {-1, 0, 1, 8, 9, 800, MOST}) {
                due("bound(" + which + ", " + i + ")", x.bound(which, i), 0);
            }
        }
        due("bound(-1, 0)", x.bound(-1, 0), NONE);
        due("bound(2, 0)", x.bound(2, 0), NONE);
        due("bound(0, -2)", x.bound(0, -2), NONE);
        ends(x, 0, 1, "-70 -70");
    }

    private void boundWhich() {
        report.sentence("Promise 15: which = 0 of L, 1 of H. NONE: another which, i");
        Counted x = new Counted();
        x.ratio(-35, 100);
        due("enclose(0, 1)", x.enclose(0, 1), 1);
        for (int wrong : new int[] {LEAST, -2, -1, 2, 3, 1 << 16, MOST}) {
            for (int i : new int[] {-2, -1, 0, 1}) {
                due("bound(" + wrong + ", " + i + ")", x.bound(wrong, i), NONE);
            }
        }
        for (int which = 0; which < 2; which++) {
            for (int wrong : new int[] {LEAST, -800, -3, -2}) {
                due("bound(" + which + ", " + wrong + ")", x.bound(which, wrong), NONE);
            }
        }
        due("bound(0, -1)", x.bound(0, -1), -1);
        due("bound(1, -1)", x.bound(1, -1), -1);
        due("bound(0, 0)", x.bound(0, 0), 4);
        due("bound(1, 0)", x.bound(1, 0), 3);
    }

    private void boundDigits() {
        report.sentence("Promise 15: digit i from the lowest on, of the number without its sign");
        Counted x = new Counted();
        x.ratio(-1234567898, 10);
        due("enclose(0, 9)", x.enclose(0, 9), 1);
        String digits = "123456789800000000";
        for (int i = 0; i < digits.length(); i++) {
            int want = digits.charAt(digits.length() - 1 - i) - '0';
            due("bound(0, " + i + ")", x.bound(0, i), want);
            due("bound(1, " + i + ")", x.bound(1, i), want);
        }
        for (int i : new int[] {18, 19, 26, 27, 799, 800, 1 << 16, MOST - 1, MOST}) {
            due("bound(0, " + i + ") above the highest", x.bound(0, i), 0);
            due("bound(1, " + i + ") above the highest", x.bound(1, i), 0);
        }
    }

    private void boundSigns() {
        report.sentence("Promise 15: i = - 1: its sign (- 1, 0, 1)");
        Counted x = new Counted();
        int[][] all = {{-1, -1}, {-1, 0}, {-1, 1}, {0, 0}, {0, 1}, {1, 1}};
        int[] made = {x.ratio(-35, 100), around(x, 1, 0), around(x, 1, 1), x.whole(0),
            around(x, 0, 1), x.ratio(35, 100)};
        for (int i = 0; i < made.length; i++) {
            due("enclose", x.enclose(made[i], 1), 1);
            due("sign of L", x.bound(0, -1), all[i][0]);
            due("sign of H", x.bound(1, -1), all[i][1]);
        }
    }

    private void boundOfLatest() {
        report.sentence("Promise 15: Of the latest enclosure that was not OPEN");
        Counted x = new Counted();
        x.ratio(1, 3);
        x.ratio(-2, 3);
        x.root(1);
        ends(x, 0, 2, "33 34");
        ends(x, 2, 2, "OPEN");
        report.due("after OPEN", x.bounds(4), "33 34");
        ends(x, 3, 2, "NONE");
        ends(x, 1, 481, "NONE");
        report.due("after NONE", x.bounds(4), "33 34");
        ends(x, 1, 3, "-667 -666");
        ends(x, 2, 3, "OPEN");
        report.due("after OPEN", x.bounds(4), "-667 -666");
        ends(x, 1, 1, "-7 -6");
        due("drop(0)", x.drop(0), 3);
        report.due("after its VALUE is gone", x.bounds(4), "-7 -6");
        x.whole(5);
        report.due("after another is made in its place", x.bounds(4), "-7 -6");
    }
}
