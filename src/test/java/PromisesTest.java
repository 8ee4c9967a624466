import java.math.BigInteger;

/** One part for each promise of ../shared/DOC.md: ordinary inputs, its edges, wrong inputs. */
public final class PromisesTest {
    private static final int NONE = EnclosedDigits.NONE;
    private static final int FULL = EnclosedDigits.FULL;
    private static final int OPEN = EnclosedDigits.OPEN;
    private static final String PI =
        "3141592653589793238462643383279502884197169399375105820974944592307816406286";
    private static final String E =
        "2718281828459045235360287471352662497757247093699959574966967627724076630353";
    private static final String ROOT_2 =
        "1414213562373095048801688724209698078569671875376948073176679737990732478462";
    private static final String LOG_2 =
        "693147180559945309417232121458176568075500134360255254120680009493393621969";
    private static final int[] FAR = {Integer.MIN_VALUE, Integer.MAX_VALUE};

    private final Report report = new Report();

    public static void main(String[] args) {
        PromisesTest test = new PromisesTest();
        test.aNewObject();
        test.whole();
        test.ratio();
        test.arctan();
        test.artanh();
        test.power();
        test.powerBounds();
        test.root();
        test.sumsAndDifferences();
        test.products();
        test.quotientsOfTwo();
        test.tooLong();
        test.joinRefuses();
        test.noneBeforeFull();
        test.drop();
        test.digits();
        test.digitsStay();
        test.digitAndLength();
        test.enclose();
        test.bound();
        test.order();
        test.quotients();
        test.quotientsEdges();
        test.precision();
        test.laterPrecisions();
        test.report.end();
    }

    private void due(String call, long got, long want) {
        report.due(call, got, want);
    }

    // ---- reading numbers as texts

    private static String sign(long sign) {
        return sign < 0 ? "-" : "";
    }

    /** THE DIGITS without their sign; what stands above their highest must be 0. */
    private String shown(EnclosedDigits x) {
        StringBuilder text = new StringBuilder();
        for (int i = x.length() - 1; i >= 0; i--) {
            text.append(x.digit(i));
        }
        due("digit above the highest", x.digit(x.length()), 0);
        due("digit far above", x.digit(Integer.MAX_VALUE), 0);
        return text.toString();
    }

    private static String end(EnclosedDigits x, int which) {
        StringBuilder text = new StringBuilder();
        for (int i = 0; i <= 801; i++) {
            text.append(x.bound(which, i));
        }
        String digits = new BigInteger(text.reverse().toString()).toString();
        return sign(x.bound(which, -1)) + digits;
    }

    private void ends(EnclosedDigits x, int v, int p, String low, String high) {
        due("enclose(" + v + ", " + p + ")", x.enclose(v, p), 1);
        report.due("L of " + v + " at " + p, end(x, 0), low);
        report.due("H of " + v + " at " + p, end(x, 1), high);
        due("sign of L", x.bound(0, -1), new BigInteger(low).signum());
        due("sign of H", x.bound(1, -1), new BigInteger(high).signum());
    }

    private static String zeros(int n) {
        return "0".repeat(n);
    }

    private static EnclosedDigits wholes(long... all) {
        EnclosedDigits x = new EnclosedDigits();
        for (long n : all) {
            x.whole(n);
        }
        return x;
    }

    // ---- Promise 1

    private void aNewObject() {
        EnclosedDigits x = new EnclosedDigits();
        due("values() of a new one", x.values(), 0);
        due("length() of a new one", x.length(), 0);
        due("digit(0) of a new one", x.digit(0), 0);
        due("digit(-1) of a new one", x.digit(-1), NONE);
        due("many() of a new one", x.many(), 0);
        due("quotient(0) of a new one", x.quotient(0), 0);
        due("precision() of a new one", x.precision(), 0);
        for (int i = -1; i < 3; i++) {
            due("bound(0, i) of a new one", x.bound(0, i), 0);
            due("bound(1, i) of a new one", x.bound(1, i), 0);
        }
        due("bound(2, 0) of a new one", x.bound(2, 0), NONE);
        due("bound(0, -2) of a new one", x.bound(0, -2), NONE);
        due("digits(0, 0) of a new one", x.digits(0, 0), NONE);
        due("enclose(0, 1) of a new one", x.enclose(0, 1), NONE);
        due("order(0, 0) of a new one", x.order(0, 0), NONE);
        due("quotients(0, 1) of a new one", x.quotients(0, 1), NONE);
        due("root(0) of a new one", x.root(0), NONE);
        due("join(0, 0, 0) of a new one", x.join(0, 0, 0), NONE);
        due("drop(0) of a new one", x.drop(0), 0);
        EnclosedDigits other = new EnclosedDigits();
        other.whole(1);
        due("values() beside another object", x.values(), 0);
    }

    // ---- Promises 2 to 6

    private void whole() {
        EnclosedDigits x = new EnclosedDigits();
        long[] all = {0, 1, -1, 999999999, 1000000000, Long.MAX_VALUE, Long.MIN_VALUE};
        for (int i = 0; i < all.length; i++) {
            due("whole(" + all[i] + ")", x.whole(all[i]), i);
            String units = all[i] == 0 ? "0" : all[i] + zeros(9);
            ends(x, i, 9, units, units);
        }
        ends(x, 6, 480, Long.MIN_VALUE + zeros(480), Long.MIN_VALUE + zeros(480));
        EnclosedDigits full = new EnclosedDigits();
        for (int i = 0; i < 60; i++) {
            due("whole, one of sixty", full.whole(i), i);
        }
        due("whole, the sixty-first", full.whole(60), FULL);
        due("values() when full", full.values(), 60);
        ends(full, 59, 1, "590", "590");
    }

    private void ratio() {
        EnclosedDigits x = new EnclosedDigits();
        due("ratio(1, 0)", x.ratio(1, 0), NONE);
        due("ratio(0, 0)", x.ratio(0, 0), NONE);
        due("values() after NONE", x.values(), 0);
        due("ratio(2, 3)", x.ratio(2, 3), 0);
        ends(x, 0, 3, "666", "667");
        due("ratio(-2, 3)", x.ratio(-2, 3), 1);
        ends(x, 1, 3, "-667", "-666");
        due("ratio(2, -3)", x.ratio(2, -3), 2);
        ends(x, 2, 3, "-667", "-666");
        due("ratio(-2, -3)", x.ratio(-2, -3), 3);
        ends(x, 3, 3, "666", "667");
        due("ratio(1, 8)", x.ratio(1, 8), 4);
        ends(x, 4, 2, "12", "13");
        ends(x, 4, 3, "125", "125");
        due("ratio(0, -7)", x.ratio(0, -7), 5);
        ends(x, 5, 3, "0", "0");
        due("ratio(1, least)", x.ratio(1, Long.MIN_VALUE), 6);
        ends(x, 6, 18, "-1", "0");
        ends(x, 6, 19, "-2", "-1");
        due("ratio(least, least)", x.ratio(Long.MIN_VALUE, Long.MIN_VALUE), 7);
        ends(x, 7, 1, "10", "10");
        due("ratio(least, -1)", x.ratio(Long.MIN_VALUE, -1), 8);
        ends(x, 8, 1, "92233720368547758080", "92233720368547758080");
        due("ratio(greatest, least)", x.ratio(Long.MAX_VALUE, Long.MIN_VALUE), 9);
        ends(x, 9, 5, "-100000", "-99999");
    }

    private void arctan() {
        EnclosedDigits x = new EnclosedDigits();
        for (int wrong : new int[] {1, 0, -1, -2, -5, 100001, FAR[0], FAR[1]}) {
            due("arctan(" + wrong + ")", x.arctan(wrong), NONE);
        }
        due("values() after NONE", x.values(), 0);
        due("arctan(2)", x.arctan(2), 0);
        ends(x, 0, 20, "46364760900080611621", "46364760900080611622");
        due("arctan(100000)", x.arctan(100000), 1);
        ends(x, 1, 1, "0", "1");
        ends(x, 1, 5, "0", "1");
        ends(x, 1, 15, "9999999999", "10000000000");
        ends(x, 1, 16, "99999999996", "99999999997");
        ends(x, 1, 30, "9999999999666666666686666", "9999999999666666666686667");
        due("arctan(3)", x.arctan(3), 2);
        x.join(0, 0, 2);
        x.whole(4);
        x.join(2, 3, 4);
        due("pi to 75 places", x.digits(5, 75), 1);
        report.due("pi", shown(x), PI);
    }

    private void artanh() {
        EnclosedDigits x = new EnclosedDigits();
        for (int wrong : new int[] {1, 0, -1, -3, 100001, FAR[0], FAR[1]}) {
            due("artanh(" + wrong + ")", x.artanh(wrong), NONE);
        }
        due("values() after NONE", x.values(), 0);
        due("artanh(2)", x.artanh(2), 0);
        ends(x, 0, 20, "54930614433405484569", "54930614433405484570");
        due("artanh(100000)", x.artanh(100000), 1);
        ends(x, 1, 4, "0", "1");
        ends(x, 1, 5, "1", "2");
        ends(x, 1, 15, "10000000000", "10000000001");
        ends(x, 1, 30, "10000000000333333333353333", "10000000000333333333353334");
        due("artanh(3)", x.artanh(3), 2);
        x.join(0, 2, 2);
        due("log 2 to 75 places", x.digits(3, 75), 1);
        report.due("log 2", shown(x), LOG_2);
    }

    private void power() {
        EnclosedDigits x = new EnclosedDigits();
        due("power(1, 1)", x.power(1, 1), 0);
        due("e to 75 places", x.digits(0, 75), 1);
        report.due("e", shown(x), E);
        due("power(5, 1)", x.power(5, 1), 1);
        ends(x, 1, 10, "1484131591025", "1484131591026");
        due("power(-5, 1)", x.power(-5, 1), 2);
        ends(x, 2, 10, "67379469", "67379470");
        due("power(5000, 1000)", x.power(5000, 1000), 3);
        ends(x, 3, 10, "1484131591025", "1484131591026");
        due("power(-5000, 1000)", x.power(-5000, 1000), 4);
        ends(x, 4, 1, "0", "1");
        due("power(1, 1000)", x.power(1, 1000), 5);
        ends(x, 5, 9, "1001000500", "1001000501");
        due("power(-1, 1000)", x.power(-1, 1000), 6);
        ends(x, 6, 9, "999000499", "999000500");
        ends(x, 6, 1, "9", "10");
        due("power(1, 2)", x.power(1, 2), 7);
        ends(x, 7, 18, "1648721270700128146", "1648721270700128147");
    }

    private void powerBounds() {
        EnclosedDigits x = new EnclosedDigits();
        int[][] wrong = {
            {0, 1}, {0, 0}, {1, 0}, {1, -1}, {-1, -1}, {1, 1001}, {6, 1}, {-6, 1},
            {5001, 1000}, {-5001, 1000}, {FAR[0], 1}, {FAR[1], 1}, {1, FAR[0]}, {1, FAR[1]},
            {FAR[0], FAR[0]}, {FAR[1], FAR[1]}
        };
        for (int[] pair : wrong) {
            due("power(" + pair[0] + ", " + pair[1] + ")", x.power(pair[0], pair[1]), NONE);
        }
        due("values() after NONE", x.values(), 0);
    }

    // ---- Promises 7 and 8

    private void root() {
        EnclosedDigits x = wholes(2, 9, -1, 0);
        for (int wrong : new int[] {-1, 4, FAR[0], FAR[1]}) {
            due("root(" + wrong + ")", x.root(wrong), NONE);
        }
        due("root(0)", x.root(0), 4);
        due("digits of root 2", x.digits(4, 75), 1);
        report.due("root 2", shown(x), ROOT_2);
        due("root(1)", x.root(1), 5);
        ends(x, 5, 7, "30000000", "30000000");
        due("root(2)", x.root(2), 6);
        due("root of - 1", x.enclose(6, 5), OPEN);
        due("root(3)", x.root(3), 7);
        ends(x, 7, 5, "0", "0");
        due("root of an OPEN one", x.root(6), 8);
        due("enclose of it", x.enclose(8, 5), OPEN);
        due("ratio(-1, 3)", x.ratio(-1, 3), 9);
        due("one third", x.ratio(1, 3), 10);
        due("about 0", x.join(0, 9, 10), 11);
        due("root of about 0", x.root(11), 12);
        ends(x, 11, 4, "-1", "1");
        ends(x, 12, 4, "0", "100");
        ends(x, 12, 5, "0", "317");
        due("- 1 units at the top", x.ratio(-1, 100), 13);
        due("its root", x.root(13), 14);
        due("OPEN as soon as H is below 0", x.enclose(14, 2), OPEN);
        ends(x, 14, 1, "0", "0");
    }

    private void sumsAndDifferences() {
        EnclosedDigits x = new EnclosedDigits();
        x.ratio(1, 3);
        x.ratio(-2, 7);
        due("sum", x.join(0, 0, 1), 2);
        due("difference", x.join(1, 0, 1), 3);
        ends(x, 0, 3, "333", "334");
        ends(x, 1, 3, "-286", "-285");
        ends(x, 2, 3, "47", "49");
        ends(x, 3, 3, "618", "620");
        due("with itself", x.join(1, 0, 0), 4);
        ends(x, 4, 3, "-1", "1");
        due("the other way", x.join(1, 1, 0), 5);
        ends(x, 5, 3, "-620", "-618");
        x.whole(999999999);
        x.whole(1);
        due("carry", x.join(0, 6, 7), 8);
        ends(x, 8, 9, "1000000000" + zeros(9), "1000000000" + zeros(9));
        due("borrow", x.join(1, 8, 7), 9);
        ends(x, 9, 9, "999999999" + zeros(9), "999999999" + zeros(9));
        due("nothing", x.join(1, 8, 8), 10);
        ends(x, 10, 9, "0", "0");
    }

    private void products() {
        EnclosedDigits x = new EnclosedDigits();
        x.ratio(1, 3);
        x.ratio(-1, 3);
        x.join(0, 0, 1);
        due("plus by minus", x.join(2, 0, 1), 3);
        ends(x, 3, 1, "-2", "0");
        ends(x, 3, 2, "-12", "-10");
        due("minus by minus", x.join(2, 1, 1), 4);
        ends(x, 4, 2, "10", "12");
        due("about 0 by about 0", x.join(2, 2, 2), 5);
        ends(x, 2, 2, "-1", "1");
        ends(x, 5, 2, "-1", "1");
        x.whole(-3);
        due("about 0 by - 3", x.join(2, 2, 6), 7);
        ends(x, 7, 2, "-3", "3");
        x.whole(0);
        due("about 0 by 0", x.join(2, 2, 8), 9);
        ends(x, 9, 2, "0", "0");
        x.whole(Long.MIN_VALUE);
        due("the least squared", x.join(2, 10, 10), 11);
        String square = BigInteger.ONE.shiftLeft(126).toString();
        ends(x, 11, 20, square + zeros(20), square + zeros(20));
    }

    private void quotientsOfTwo() {
        EnclosedDigits x = wholes(1, 3, -3, 0);
        due("1 by 3", x.join(3, 0, 1), 4);
        ends(x, 4, 4, "3333", "3334");
        due("1 by - 3", x.join(3, 0, 2), 5);
        ends(x, 5, 4, "-3334", "-3333");
        due("1 by 0", x.join(3, 0, 3), 6);
        due("enclose of 1 by 0", x.enclose(6, 4), OPEN);
        due("0 by 3", x.join(3, 3, 1), 7);
        ends(x, 7, 4, "0", "0");
        x.ratio(1, 1000000);
        due("1 by a millionth", x.join(3, 0, 8), 9);
        due("L is 0 at 5", x.enclose(9, 5), OPEN);
        ends(x, 9, 6, "1000000" + zeros(6), "1000000" + zeros(6));
        x.ratio(-1, 1000000);
        due("1 by minus a millionth", x.join(3, 0, 10), 11);
        due("H is 0 at 5", x.enclose(11, 5), OPEN);
        ends(x, 11, 6, "-1000000" + zeros(6), "-1000000" + zeros(6));
        x.ratio(2, 3);
        due("wide by wide", x.join(3, 12, 4), 13);
        ends(x, 13, 1, "15", "24");
        due("minus wide by wide", x.join(1, 3, 12), 14);
        due("its quotient", x.join(3, 14, 4), 15);
        ends(x, 15, 1, "-24", "-15");
        for (int op = 0; op < 4; op++) {
            due("an OPEN one first", x.join(op, 6, 0), 16);
            due("enclose of it", x.enclose(16, 4), OPEN);
            x.drop(16);
            due("an OPEN one second", x.join(op, 0, 6), 16);
            due("enclose of it", x.enclose(16, 4), OPEN);
            x.drop(op == 3 ? 17 : 16);
        }
        // At 18 the first guess of the long division is one too great for these two.
        x.ratio(499999999500000000L, 1000000000000000000L);
        x.whole(500000000);
        x.ratio(1, 1000000000000000000L);
        x.join(0, 18, 19);
        due("a guess to be mended", x.join(3, 17, 20), 21);
        ends(x, 21, 18, "999999998", "999999999");
    }

    /** 10^18, squared again and again: 10^(18 2^k) has 18 2^k + 1 + p digits at p. */
    private void tooLong() {
        EnclosedDigits x = wholes(1000000000000000000L);
        for (int i = 0; i < 5; i++) {
            due("squared", x.join(2, i, i), i + 1);
        }
        String units = "1" + zeros(576);
        ends(x, 5, 223, units + zeros(223), units + zeros(223));
        due("801 digits", x.enclose(5, 224), OPEN);
        x.whole(-1);
        due("below 0", x.join(2, 5, 6), 7);
        ends(x, 7, 223, "-" + units + zeros(223), "-" + units + zeros(223));
        due("801 digits below 0", x.enclose(7, 224), OPEN);
        x.whole(9);
        x.join(2, 5, 8);
        due("ten times it by a sum", x.join(0, 5, 9), 10);
        ends(x, 9, 223, "9" + zeros(799), "9" + zeros(799));
        due("a sum of 801 digits", x.enclose(10, 223), OPEN);
        ends(x, 10, 222, "1" + zeros(799), "1" + zeros(799));
        due("made of a long one", x.join(3, 10, 10), 11);
        due("OPEN, though it is 1", x.enclose(11, 223), OPEN);
        ends(x, 11, 222, "1" + zeros(222), "1" + zeros(222));
        due("by a small one", x.join(3, 5, 5), 12);
        x.ratio(1, 1000000000000000000L);
        due("a quotient grows", x.join(3, 5, 13), 14);
        ends(x, 14, 205, "1" + zeros(799), "1" + zeros(799));
        due("a quotient of 801 digits", x.enclose(14, 206), OPEN);
        due("digits of a long one", x.digits(5, 300), OPEN);
        due("precision() of it", x.precision(), 0);
        due("digits at 10", x.digits(5, 0), 1);
        due("length() of it", x.length(), 577);
    }

    private void joinRefuses() {
        EnclosedDigits x = wholes(1, 2);
        for (int op : new int[] {-1, 4, FAR[0], FAR[1]}) {
            due("join(" + op + ", 0, 1)", x.join(op, 0, 1), NONE);
        }
        for (int v : new int[] {-1, 2, FAR[0], FAR[1]}) {
            due("join(0, " + v + ", 0)", x.join(0, v, 0), NONE);
            due("join(0, 0, " + v + ")", x.join(0, 0, v), NONE);
        }
        due("values() after NONE", x.values(), 2);
    }

    private void noneBeforeFull() {
        EnclosedDigits x = wholes(new long[60]);
        due("ratio(1, 0)", x.ratio(1, 0), NONE);
        due("arctan(1)", x.arctan(1), NONE);
        due("artanh(1)", x.artanh(1), NONE);
        due("power(0, 1)", x.power(0, 1), NONE);
        due("root(60)", x.root(60), NONE);
        due("join(4, 0, 0)", x.join(4, 0, 0), NONE);
        due("join(0, 60, 0)", x.join(0, 60, 0), NONE);
        due("whole(1)", x.whole(1), FULL);
        due("ratio(1, 1)", x.ratio(1, 1), FULL);
        due("arctan(2)", x.arctan(2), FULL);
        due("artanh(2)", x.artanh(2), FULL);
        due("power(1, 1)", x.power(1, 1), FULL);
        due("root(59)", x.root(59), FULL);
        due("join(0, 0, 59)", x.join(0, 0, 59), FULL);
        due("values()", x.values(), 60);
    }

    // ---- Promises 9 and 10

    private void drop() {
        EnclosedDigits x = wholes(1, 2, 3, 4, 5);
        for (int wrong : new int[] {-1, 6, FAR[0], FAR[1]}) {
            due("drop(" + wrong + ")", x.drop(wrong), NONE);
        }
        due("values() after NONE", x.values(), 5);
        due("drop(5)", x.drop(5), 0);
        due("drop(3)", x.drop(3), 2);
        due("values()", x.values(), 3);
        due("digits of one that is gone", x.digits(3, 0), NONE);
        due("join with one that is gone", x.join(0, 0, 3), NONE);
        due("enclose at 5", x.enclose(2, 5), 1);
        due("drop(2)", x.drop(2), 1);
        due("another in its place", x.power(1, 1), 2);
        ends(x, 2, 5, "271828", "271829");
        due("drop(2) again", x.drop(2), 1);
        due("a third in its place", x.arctan(2), 2);
        ends(x, 2, 5, "46364", "46365");
        due("bounds stay", x.drop(0), 3);
        report.due("L", end(x, 0), "46364");
        due("values() of none", x.values(), 0);
        due("drop(0) of none", x.drop(0), 0);
        EnclosedDigits full = wholes(new long[60]);
        due("drop(59)", full.drop(59), 1);
        due("room again", full.whole(7), 59);
        due("no more", full.whole(7), FULL);
        due("drop(0) of all", full.drop(0), 60);
    }

    // ---- Promises 11 to 13

    private void digits() {
        EnclosedDigits x = wholes(2);
        x.root(0);
        due("digits(1, 0)", x.digits(1, 0), 1);
        report.due("root 2 to 0 places", shown(x), "1");
        due("digits(1, 400)", x.digits(1, 400), 1);
        due("length()", x.length(), 401);
        due("precision()", x.precision(), 410);
        for (int wrong : new int[] {-1, 401, FAR[0], FAR[1]}) {
            due("digits(1, " + wrong + ")", x.digits(1, wrong), NONE);
        }
        for (int wrong : new int[] {-1, 2, FAR[0], FAR[1]}) {
            due("digits(" + wrong + ", 0)", x.digits(wrong, 0), NONE);
        }
        due("precision() after NONE", x.precision(), 410);
        x.ratio(-1, 3);
        due("below 0", x.digits(2, 0), 0);
        report.due("rounded down", shown(x), "1");
        due("below 0, to 3 places", x.digits(2, 3), 0);
        report.due("rounded down", shown(x), "334");
        x.ratio(1, 30000);
        due("0 to 3 places", x.digits(3, 3), 1);
        report.due("0", shown(x), "0");
        due("length() of 0", x.length(), 1);
        x.whole(0);
        due("0 itself", x.digits(4, 400), 1);
        due("length() of 0", x.length(), 1);
        x.whole(-5);
        due("- 5", x.digits(5, 2), 0);
        report.due("- 5 to 2 places", shown(x), "500");
    }

    private void digitsStay() {
        EnclosedDigits x = wholes(2, 7);
        x.root(0);
        x.join(2, 2, 2);
        due("digits(1, 2)", x.digits(1, 2), 1);
        due("precision()", x.precision(), 12);
        due("root 2 squared", x.digits(3, 2), OPEN);
        due("precision() of OPEN", x.precision(), 0);
        report.due("they stay", shown(x), "700");
        due("no such value", x.digits(9, 2), NONE);
        report.due("they stay", shown(x), "700");
        due("drop(0)", x.drop(0), 4);
        report.due("they stay", shown(x), "700");
        due("length()", x.length(), 3);
    }

    private void digitAndLength() {
        EnclosedDigits x = wholes(9876543210L, 999999999, 1000000000, Long.MIN_VALUE);
        due("digits(0, 0)", x.digits(0, 0), 1);
        for (int i = 0; i < 10; i++) {
            due("digit(" + i + ")", x.digit(i), i);
        }
        due("digit(10)", x.digit(10), 0);
        for (int wrong : new int[] {-1, -2, FAR[0]}) {
            due("digit(" + wrong + ")", x.digit(wrong), NONE);
        }
        due("digit(greatest)", x.digit(FAR[1]), 0);
        due("length()", x.length(), 10);
        x.digits(1, 0);
        due("length() of nine digits", x.length(), 9);
        x.digits(2, 0);
        due("length() of ten digits", x.length(), 10);
        due("the least", x.digits(3, 0), 0);
        report.due("the least", shown(x), "9223372036854775808");
    }

    // ---- Promises 14 and 15

    private void enclose() {
        EnclosedDigits x = new EnclosedDigits();
        x.ratio(1, 7);
        ends(x, 0, 1, "1", "2");
        ends(x, 0, 12, "142857142857", "142857142858");
        String many = "142857".repeat(80);
        ends(x, 0, 480, many, many.substring(0, 479) + "8");
        for (int wrong : new int[] {0, -1, 481, FAR[0], FAR[1]}) {
            due("enclose(0, " + wrong + ")", x.enclose(0, wrong), NONE);
        }
        for (int wrong : new int[] {-1, 1, FAR[0], FAR[1]}) {
            due("enclose(" + wrong + ", 1)", x.enclose(wrong, 1), NONE);
        }
        report.due("L stays", end(x, 0), many);
        due("enclose is not asked for THE PRECISION", x.precision(), 0);
        ends(x, 0, 6, "142857", "142858");
        x.whole(-1);
        x.root(1);
        due("enclose of an OPEN one", x.enclose(2, 6), OPEN);
        report.due("L stays", end(x, 0), "142857");
        report.due("H stays", end(x, 1), "142858");
    }

    private void bound() {
        EnclosedDigits x = new EnclosedDigits();
        x.ratio(-10, 7);
        due("enclose", x.enclose(0, 3), 1);
        due("bound(0, -1)", x.bound(0, -1), -1);
        due("bound(0, 0)", x.bound(0, 0), 9);
        due("bound(1, 0)", x.bound(1, 0), 8);
        due("bound(0, 3)", x.bound(0, 3), 1);
        due("bound(0, 4)", x.bound(0, 4), 0);
        due("bound(1, greatest)", x.bound(1, FAR[1]), 0);
        for (int wrong : new int[] {-1, 2, FAR[0], FAR[1]}) {
            due("bound(" + wrong + ", 0)", x.bound(wrong, 0), NONE);
            due("bound(" + wrong + ", -1)", x.bound(wrong, -1), NONE);
        }
        for (int wrong : new int[] {-2, -3, FAR[0]}) {
            due("bound(0, " + wrong + ")", x.bound(0, wrong), NONE);
            due("bound(1, " + wrong + ")", x.bound(1, wrong), NONE);
        }
        x.digits(0, 5);
        x.order(0, 0);
        x.quotients(0, 1);
        report.due("what is asked leaves L", end(x, 0), "-1429");
        report.due("what is asked leaves H", end(x, 1), "-1428");
    }

    // ---- Promise 16

    private void order() {
        EnclosedDigits x = wholes(1, 2, -3);
        due("1 and 2", x.order(0, 1), 0);
        due("precision()", x.precision(), 10);
        due("2 and 1", x.order(1, 0), 1);
        due("- 3 and 1", x.order(2, 0), 0);
        due("1 and - 3", x.order(0, 2), 1);
        due("1 and 1", x.order(0, 0), OPEN);
        due("precision()", x.precision(), 0);
        x.ratio(3000000000000001L, 1000000000000000L);
        x.whole(3);
        due("the difference is seen at 20", x.order(3, 4), 1);
        due("precision()", x.precision(), 20);
        due("the other way", x.order(4, 3), 0);
        due("precision()", x.precision(), 20);
        for (int wrong : new int[] {-1, 5, FAR[0], FAR[1]}) {
            due("order(" + wrong + ", 0)", x.order(wrong, 0), NONE);
            due("order(0, " + wrong + ")", x.order(0, wrong), NONE);
        }
        due("precision() after NONE", x.precision(), 20);
        x.root(2);
        due("with an OPEN one", x.order(5, 0), OPEN);
        due("with an OPEN one", x.order(0, 5), OPEN);
        due("precision() after OPEN", x.precision(), 0);
        x.ratio(1, 10000000000L);
        x.whole(0);
        due("by one unit, both exact", x.order(6, 7), 1);
        due("precision()", x.precision(), 10);
        x.ratio(1, 20000000000L);
        due("H and L are the same at 10", x.order(8, 7), 1);
        due("precision()", x.precision(), 20);
    }

    // ---- Promises 17 to 19

    private void allQuotients(EnclosedDigits x, long... want) {
        due("many()", x.many(), want.length);
        for (int i = 0; i < want.length; i++) {
            due("quotient(" + i + ")", x.quotient(i), want[i]);
        }
        due("quotient above", x.quotient(want.length), 0);
        due("quotient(-1)", x.quotient(-1), 0);
        due("quotient(least)", x.quotient(FAR[0]), 0);
        due("quotient(greatest)", x.quotient(FAR[1]), 0);
    }

    private void quotients() {
        EnclosedDigits x = wholes(2);
        x.root(0);
        due("quotients(1, 5)", x.quotients(1, 5), 1);
        allQuotients(x, 1, 2, 2, 2, 2);
        due("precision()", x.precision(), 20);
        for (int wrong : new int[] {0, -1, 41, FAR[0], FAR[1]}) {
            due("quotients(1, " + wrong + ")", x.quotients(1, wrong), NONE);
        }
        for (int wrong : new int[] {-1, 2, FAR[0], FAR[1]}) {
            due("quotients(" + wrong + ", 1)", x.quotients(wrong, 1), NONE);
        }
        allQuotients(x, 1, 2, 2, 2, 2);
        due("precision() after NONE", x.precision(), 20);
        due("2 has one only", x.quotients(0, 2), OPEN);
        due("precision() after OPEN", x.precision(), 0);
        allQuotients(x, 1, 2, 2, 2, 2);
        due("2 has one", x.quotients(0, 1), 1);
        allQuotients(x, 2);
        due("forty of them", x.quotients(1, 40), 1);
        due("many()", x.many(), 40);
        due("quotient(39)", x.quotient(39), 2);
        due("quotient(40)", x.quotient(40), 0);
        due("precision()", x.precision(), 90);
        due("they stay", x.drop(0), 2);
        due("many()", x.many(), 40);
    }

    private void quotientsEdges() {
        EnclosedDigits x = new EnclosedDigits();
        x.ratio(-7, 4);
        due("- 7 / 4", x.quotients(0, 2), 1);
        allQuotients(x, -2, 4);
        due("- 7 / 4 has two", x.quotients(0, 3), OPEN);
        x.whole(-5);
        due("- 5", x.quotients(1, 1), 1);
        allQuotients(x, -5);
        long most = 1L << 62;
        long[] given = {most - 1, most, most + 1, Long.MAX_VALUE,
            1 - most, -most, -1 - most, Long.MIN_VALUE, 4999999999999999999L, 0};
        long[] shown = {most - 1, most, most, most, 1 - most, -most, -most, -most, most, 0};
        for (int i = 0; i < given.length; i++) {
            due("whole", x.whole(given[i]), i + 2);
            due("quotients of " + given[i], x.quotients(i + 2, 1), 1);
            allQuotients(x, shown[i]);
        }
        x.drop(0);
        x.whole(Long.MAX_VALUE);
        x.join(2, 0, 0);
        due("a long square", x.quotients(1, 1), 1);
        allQuotients(x, most);
        x.ratio(-1, 1000000000000000000L);
        due("a little below 0", x.quotients(2, 3), 1);
        allQuotients(x, -1, 1, 999999999999999999L);
        due("precision()", x.precision(), 32);
        x.join(2, 2, 2);
        due("a small square", x.quotients(3, 2), 1);
        allQuotients(x, 0, most);
        due("precision()", x.precision(), 56);
        // Both are shown as 2^62, but they are not the same, so they are not settled.
        x.whole(5);
        x.root(4);
        x.join(2, 5, 5);
        x.join(1, 6, 4);
        x.join(0, 7, 3);
        due("alike as shown only", x.quotients(8, 2), OPEN);
        allQuotients(x, 0, most);
    }

    // ---- Promise 20

    private void precision() {
        EnclosedDigits x = wholes(3);
        x.digits(0, 7);
        due("precision() of digits", x.precision(), 17);
        x.whole(4);
        x.drop(1);
        x.enclose(0, 100);
        x.values();
        x.digit(0);
        due("precision() after other calls", x.precision(), 17);
        x.digits(5, 7);
        due("precision() after NONE of digits", x.precision(), 17);
        x.quotients(0, 1);
        due("precision() of quotients", x.precision(), 12);
        x.quotients(0, 0);
        due("precision() after NONE of quotients", x.precision(), 12);
        x.order(0, 5);
        due("precision() after NONE of order", x.precision(), 12);
        x.order(0, 0);
        due("precision() of what is not settled", x.precision(), 0);
        x.quotients(0, 1);
        x.quotients(0, 2);
        due("precision() of what is not settled", x.precision(), 0);
    }

    /** 10^-18, squared again and again: each is told from 0 at the first precision that shows it. */
    private void laterPrecisions() {
        EnclosedDigits x = wholes(1, 2);
        x.ratio(1, 1000000000000000000L);
        x.join(2, 2, 2);
        x.join(2, 3, 3);
        x.join(2, 4, 4);
        x.join(2, 5, 5);
        x.whole(0);
        int[] at = {0, 0, 20, 40, 80, 160, 320};
        for (int v = 2; v <= 6; v++) {
            due("order(" + v + ", 7)", x.order(v, 7), 1);
            due("precision()", x.precision(), at[v]);
        }
        x.join(3, 0, 5);
        due("1 by 10^-144 at 80", x.enclose(8, 80), OPEN);
        due("its digits are settled at 160", x.digits(8, 0), 1);
        due("precision()", x.precision(), 160);
        due("length()", x.length(), 145);
        due("minus 10^-288", x.join(1, 7, 6), 9);
        due("digits from 234 on", x.digits(9, 224), 0);
        due("precision()", x.precision(), 468);
        report.due("rounded down", shown(x), "1");
        due("digits from 240 on", x.digits(9, 230), 0);
        due("precision(): 480 is not above 480", x.precision(), 480);
        due("digits from 241 on", x.digits(9, 231), OPEN);
        due("precision()", x.precision(), 0);
    }
}
