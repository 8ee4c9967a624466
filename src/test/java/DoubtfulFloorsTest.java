/**
 * Numbers of endless series that come so near to a whole number of units that a sum with few guard
 * digits can't tell which side they are on. What is due was worked out apart from this project, by
 * mpmath with 700 digits.
 */
public final class DoubtfulFloorsTest {
    private static final int SEEN = 24;
    private static final int MOST_PRECISION = 480;

    private final Report report = new Report();

    public static void main(String[] args) {
        DoubtfulFloorsTest test = new DoubtfulFloorsTest();
        test.arctangents();
        test.logarithms();
        test.powers();
        test.digits();
        test.orders();
        test.report.end();
    }

    private interface Making {
        int in(Counted x);
    }

    /** The lowest digits of L and H, of a number whose places after p are all 0 or all 9 at first. */
    private void near(String what, Making made, int p, String low, String high) {
        Counted alone = new Counted();
        int v = made.in(alone);
        dueAt(what, alone, v, p, low, high);

        Counted afterFiner = new Counted();
        v = made.in(afterFiner);
        report.due(what + " at 480", afterFiner.enclose(v, MOST_PRECISION), 1);
        dueAt(what + ", finer before,", afterFiner, v, p, low, high);

        Counted afterCoarser = new Counted();
        v = made.in(afterCoarser);
        for (int i = Math.max(1, p - 3); i < p; i++) {
            report.due(what + " at " + i, afterCoarser.enclose(v, i), 1);
        }
        dueAt(what + ", coarser before,", afterCoarser, v, p, low, high);
    }

    private void dueAt(String what, Counted x, int v, int p, String low, String high) {
        report.due(what + " at " + p, x.enclose(v, p), 1);
        report.due("L of " + what + " at " + p, lowest(x, 0), padded(low));
        report.due("H of " + what + " at " + p, lowest(x, 1), padded(high));
    }

    private static String lowest(Counted x, int which) {
        StringBuilder text = new StringBuilder();
        for (int i = SEEN - 1; i >= 0; i--) {
            text.append(x.bound(which, i));
        }
        return text.toString();
    }

    private static String padded(String digits) {
        return "0".repeat(SEEN - digits.length()) + digits;
    }

    private void arctangents() {
        report.sentence("ENCLOSURES, ARCTAN: the greatest not above it, the least not below");
        near("arctan(100000)", x -> x.arctan(100000), 5, "0", "1");
        near("arctan(5000)", x -> x.arctan(5000), 4, "1", "2");
        near("arctan(15029)", x -> x.arctan(15029), 320,
            "358947148815145091132824", "358947148815145091132825");
    }

    private void logarithms() {
        report.sentence("ENCLOSURES, ARTANH: the greatest not above it, the least not below");
        near("artanh(100000)", x -> x.artanh(100000), 5, "1", "2");
        near("artanh(3777)", x -> x.artanh(3777), 476,
            "293965807262136120340302", "293965807262136120340303");
        near("artanh(16991)", x -> x.artanh(16991), 232,
            "572271214628173868187004", "572271214628173868187005");
    }

    private void powers() {
        report.sentence("ENCLOSURES, POWER: the greatest not above it, the least not below");
        near("power(52, 23)", x -> x.power(52, 23), 20,
            "959142591192545000509", "959142591192545000510");
        near("power(943, 249)", x -> x.power(943, 249), 394,
            "527404473342747471095732", "527404473342747471095733");
        near("power(-227, 228)", x -> x.power(-227, 228), 329,
            "285470025523990335684301", "285470025523990335684302");
        near("power(-23, 106)", x -> x.power(-23, 106), 235,
            "974562371756657496958110", "974562371756657496958111");
    }

    /** To 10 places it is 9.5914259119 at 20 already, though L there is in doubt at first. */
    private void digits() {
        report.sentence("DIGITS to n places: from n + 10 on");
        Counted x = new Counted();
        int v = x.power(52, 23);
        report.due("digits(v, 10)", x.digits(v, 10), 1);
        report.due("THE DIGITS", x.digits(), "95914259119");
        report.due("precision()", x.precision(), 20);
    }

    /** e^(52/23) is above its L at 20 by 13 units of 10^-31: told at 40, not at 20. */
    private void orders() {
        report.sentence("ORDER of two: from 10 on; if one's H is below the other's L");
        Counted x = new Counted();
        int v = x.power(52, 23);
        int low = x.join(0, x.whole(9), x.join(0, x.ratio(591425911925450005L, Counted.ten(18)),
            x.join(2, x.ratio(9, 100), x.tenth(18))));
        report.due("order(v, L)", x.order(v, low), 1);
        report.due("precision()", x.precision(), 40);
        report.due("order(L, v)", x.order(low, v), 0);
        report.due("precision()", x.precision(), 40);
    }
}
