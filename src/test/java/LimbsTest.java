import java.math.BigInteger;
import java.util.Random;

/**
 * Products, quotients and roots of numbers whose limbs of nine digits are 0, 1, half the base, or
 * near the base: there carries, borrows and guesses of long division go wrong first.
 */
public final class LimbsTest {
    private static final int ROUNDS = 6000;
    private static final int P = 36;
    private static final long UNIT = 1000000000000000000L;
    private static final long[] LIMBS = {
        0, 0, 0, 1, 2, 499999999, 500000000, 500000001, 999999998, 999999999, 999999999
    };

    private final Report report = new Report();
    private final Random random = new Random(7);
    private EnclosedDigits x;

    public static void main(String[] args) {
        LimbsTest test = new LimbsTest();
        for (int i = 0; i < ROUNDS; i++) {
            test.round();
        }
        test.report.end();
    }

    private long limb() {
        return random.nextInt(12) == 0 ? random.nextInt(1000000000)
            : LIMBS[random.nextInt(LIMBS.length)];
    }

    /** Four limbs as a whole number of units at P; its number among the VALUES is answered. */
    private int value(BigInteger units) {
        BigInteger[] halves = units.divideAndRemainder(BigInteger.valueOf(UNIT));
        int high = x.ratio(halves[0].longValueExact(), UNIT);
        int low = x.ratio(halves[1].longValueExact(), UNIT);
        int tiny = x.join(2, low, 0);
        return x.join(0, high, tiny);
    }

    private BigInteger units() {
        BigInteger sum = BigInteger.ZERO;
        for (int i = 0; i < 4; i++) {
            sum = sum.multiply(BigInteger.valueOf(1000000000)).add(BigInteger.valueOf(limb()));
        }
        return random.nextBoolean() ? sum : sum.negate();
    }

    private void round() {
        BigInteger a = units();
        BigInteger b = units();
        BigInteger c = units();
        BigInteger unit = Model.ten(P);
        x = new EnclosedDigits();
        x.ratio(1, UNIT);
        int va = value(a);
        int vb = value(b);
        int vc = value(c);
        check("a", va, a, a);
        int product = x.join(2, va, vb);
        BigInteger exact = a.multiply(b);
        check(a + " by " + b, product, Model.floor(exact, unit), Model.ceil(exact, unit));
        if (b.signum() != 0) {
            int quotient = x.join(3, va, vb);
            exact = a.multiply(unit);
            check(a + " into " + b, quotient, Model.floor(exact, b), Model.ceil(exact, b));
        }
        int root = x.root(va);
        if (a.signum() >= 0) {
            BigInteger[] both = a.multiply(unit).sqrtAndRemainder();
            BigInteger up = both[0].add(BigInteger.valueOf(both[1].signum()));
            check("root of " + a, root, both[0], up);
        }
        longer(new BigInteger[] {a, b, c}, new int[] {va, vb, vc});
    }

    /** Eight limbs of whole units: the dividend is long, the divisor has more than four limbs. */
    private void longer(BigInteger[] units, int[] v) {
        BigInteger a = units[0];
        BigInteger b = units[1];
        BigInteger c = units[2];
        int shift = x.whole(UNIT);
        int up = x.join(2, shift, shift);
        int high = x.join(2, v[0], up);
        int sum = x.join(0, high, v[1]);
        BigInteger unit = Model.ten(P);
        BigInteger wide = a.multiply(unit).add(b);
        check(a + " over " + b, sum, wide, wide);
        if (wide.signum() != 0) {
            int fine = x.join(3, v[2], sum);
            BigInteger exact = c.multiply(unit);
            check(c + " into " + wide, fine, Model.floor(exact, wide), Model.ceil(exact, wide));
            int square = x.join(2, sum, sum);
            int back = x.join(3, square, sum);
            BigInteger squared = wide.multiply(wide);
            BigInteger low = Model.floor(squared, unit).multiply(unit);
            BigInteger top = Model.ceil(squared, unit).multiply(unit);
            boolean swapped = wide.signum() < 0;
            check("back to " + wide, back,
                Model.floor(swapped ? top : low, wide), Model.ceil(swapped ? low : top, wide));
        }
    }

    private void check(String what, int v, BigInteger low, BigInteger high) {
        report.due("enclose of " + what, x.enclose(v, P), 1);
        report.due("L of " + what, end(0), low.toString());
        report.due("H of " + what, end(1), high.toString());
    }

    private String end(int which) {
        StringBuilder text = new StringBuilder();
        for (int i = 0; i < 160; i++) {
            text.append(x.bound(which, i));
        }
        BigInteger size = new BigInteger(text.reverse().toString());
        return (x.bound(which, -1) < 0 ? size.negate() : size).toString();
    }
}
