import java.math.BigInteger;
import java.util.ArrayList;
import java.util.HashMap;
import java.util.List;
import java.util.Map;

/**
 * The document once more, on BigIntegers and with nothing kept between calls but the series:
 * slow and plain, to be compared with the class.
 */
final class Model {
    static final int NONE = -1;
    static final int FULL = -2;
    static final int OPEN = -3;
    private static final BigInteger ZERO = BigInteger.ZERO;
    private static final BigInteger ONE = BigInteger.ONE;
    private static final BigInteger SHOWN = ONE.shiftLeft(62);
    private static final int GUARD = 60;

    private record Made(String kind, long a, long b) {
    }

    record Pair(BigInteger low, BigInteger high) {
    }

    private static final Map<String, BigInteger> FLOORS = new HashMap<>();

    private final List<Made> made = new ArrayList<>();
    private BigInteger digits = null;
    private Pair latest = new Pair(ZERO, ZERO);
    private List<BigInteger> quotients = new ArrayList<>();
    private int precision = 0;

    private int add(String kind, long a, long b) {
        if (made.size() == 60) {
            return FULL;
        }
        made.add(new Made(kind, a, b));
        return made.size() - 1;
    }

    private boolean has(int v) {
        return v >= 0 && v < made.size();
    }

    int whole(long n) {
        return add("whole", n, 0);
    }

    int ratio(long a, long b) {
        return b == 0 ? NONE : add("ratio", a, b);
    }

    int arctan(int x) {
        return x < 2 || x > 100000 ? NONE : add("arctan", x, 0);
    }

    int artanh(int x) {
        return x < 2 || x > 100000 ? NONE : add("artanh", x, 0);
    }

    int power(int a, int b) {
        if (a == 0 || b < 1 || b > 1000 || Math.abs((long) a) > 5L * b) {
            return NONE;
        }
        return add("power", a, b);
    }

    int root(int v) {
        return has(v) ? add("root", v, v) : NONE;
    }

    int join(int op, int a, int b) {
        if (op < 0 || op > 3 || !has(a) || !has(b)) {
            return NONE;
        }
        return add(List.of("sum", "difference", "product", "quotient").get(op), a, b);
    }

    int drop(int from) {
        if (from < 0 || from > made.size()) {
            return NONE;
        }
        int gone = 0;
        while (made.size() > from) {
            made.remove(made.size() - 1);
            gone++;
        }
        return gone;
    }

    int values() {
        return made.size();
    }

    int digits(int v, int n) {
        if (!has(v) || n < 0 || n > 400) {
            return NONE;
        }
        precision = 0;
        for (int p = n + 10; p <= 480; p *= 2) {
            Pair e = enclosure(v, p);
            if (e == null) {
                continue;
            }
            BigInteger low = floor(e.low, ten(p - n));
            if (low.equals(floor(e.high, ten(p - n)))) {
                digits = low;
                precision = p;
                return low.signum() >= 0 ? 1 : 0;
            }
        }
        return OPEN;
    }

    private static int digitOf(BigInteger n, int i) {
        String text = n.abs().toString();
        return i >= text.length() ? 0 : text.charAt(text.length() - 1 - i) - '0';
    }

    int digit(int i) {
        return i < 0 ? NONE : digits == null ? 0 : digitOf(digits, i);
    }

    int length() {
        return digits == null ? 0 : digits.abs().toString().length();
    }

    int enclose(int v, int p) {
        if (!has(v) || p < 1 || p > 480) {
            return NONE;
        }
        Pair e = enclosure(v, p);
        if (e == null) {
            return OPEN;
        }
        latest = e;
        return 1;
    }

    int bound(int which, int i) {
        if (which != 0 && which != 1 || i < -1) {
            return NONE;
        }
        BigInteger end = which == 0 ? latest.low : latest.high;
        return i == -1 ? end.signum() : digitOf(end, i);
    }

    int order(int a, int b) {
        if (!has(a) || !has(b)) {
            return NONE;
        }
        precision = 0;
        for (int p = 10; p <= 480; p *= 2) {
            Pair first = enclosure(a, p);
            Pair second = enclosure(b, p);
            if (first == null || second == null) {
                continue;
            }
            boolean less = first.high.compareTo(second.low) < 0;
            if (less || second.high.compareTo(first.low) < 0) {
                precision = p;
                return less ? 0 : 1;
            }
        }
        return OPEN;
    }

    int quotients(int v, int k) {
        if (!has(v) || k < 1 || k > 40) {
            return NONE;
        }
        precision = 0;
        for (int p = 2 * k + 10; p <= 480; p *= 2) {
            Pair e = enclosure(v, p);
            if (e == null) {
                continue;
            }
            List<BigInteger> low = fraction(e.low, ten(p), k);
            if (low.size() == k && low.equals(fraction(e.high, ten(p), k))) {
                quotients = low;
                precision = p;
                return 1;
            }
        }
        return OPEN;
    }

    long quotient(int i) {
        if (i < 0 || i >= quotients.size()) {
            return 0;
        }
        return quotients.get(i).min(SHOWN).max(SHOWN.negate()).longValueExact();
    }

    int many() {
        return quotients.size();
    }

    int precision() {
        return precision;
    }

    private static List<BigInteger> fraction(BigInteger over, BigInteger under, int most) {
        List<BigInteger> found = new ArrayList<>();
        while (found.size() < most && under.signum() != 0) {
            BigInteger whole = floor(over, under);
            BigInteger rest = over.subtract(whole.multiply(under));
            found.add(whole);
            over = under;
            under = rest;
        }
        return found;
    }

    static BigInteger ten(int p) {
        return BigInteger.TEN.pow(p);
    }

    static BigInteger floor(BigInteger a, BigInteger b) {
        BigInteger[] both = a.divideAndRemainder(b);
        boolean below = both[1].signum() != 0 && both[1].signum() != b.signum();
        return below ? both[0].subtract(ONE) : both[0];
    }

    static BigInteger ceil(BigInteger a, BigInteger b) {
        return floor(a.negate(), b).negate();
    }

    private Pair enclosure(int v, int p) {
        Pair[] all = new Pair[v + 1];
        for (int i = 0; i <= v; i++) {
            all[i] = one(made.get(i), all, p);
            if (all[i] != null && (isLong(all[i].low) || isLong(all[i].high))) {
                all[i] = null;
            }
        }
        return all[v];
    }

    private static boolean isLong(BigInteger n) {
        return n.abs().compareTo(ten(800)) >= 0;
    }

    private static Pair one(Made m, Pair[] all, int p) {
        BigInteger a = BigInteger.valueOf(m.a).multiply(ten(p));
        switch (m.kind) {
            case "whole":
                return new Pair(a, a);
            case "ratio":
                return new Pair(floor(a, BigInteger.valueOf(m.b)), ceil(a, BigInteger.valueOf(m.b)));
            case "arctan":
            case "artanh":
            case "power":
                BigInteger low = FLOORS.computeIfAbsent(m + " " + p, x -> series(m, p));
                return new Pair(low, low.add(ONE));
            default:
                Pair first = all[(int) m.a];
                Pair second = all[(int) m.b];
                return first == null || second == null ? null : joined(m.kind, first, second, p);
        }
    }

    private static Pair joined(String kind, Pair x, Pair y, int p) {
        switch (kind) {
            case "root":
                if (x.high.signum() < 0) {
                    return null;
                }
                BigInteger[] up = x.high.multiply(ten(p)).sqrtAndRemainder();
                return new Pair(
                    x.low.signum() < 0 ? ZERO : x.low.multiply(ten(p)).sqrt(),
                    up[1].signum() == 0 ? up[0] : up[0].add(ONE));
            case "sum":
                return new Pair(x.low.add(y.low), x.high.add(y.high));
            case "difference":
                return new Pair(x.low.subtract(y.high), x.high.subtract(y.low));
            default:
                return corners(kind.equals("quotient"), x, y, p);
        }
    }

    /** The four are compared as fractions, not after they are rounded. */
    private static Pair corners(boolean divides, Pair x, Pair y, int p) {
        if (divides && y.low.signum() <= 0 && y.high.signum() >= 0) {
            return null;
        }
        BigInteger[] least = null;
        BigInteger[] greatest = null;
        for (BigInteger a : new BigInteger[] {x.low, x.high}) {
            for (BigInteger b : new BigInteger[] {y.low, y.high}) {
                BigInteger over = divides ? a.multiply(ten(p)) : a.multiply(b);
                BigInteger under = divides ? b : ten(p);
                BigInteger[] f = under.signum() < 0
                    ? new BigInteger[] {over.negate(), under.negate()}
                    : new BigInteger[] {over, under};
                least = least == null || isLess(f, least) ? f : least;
                greatest = greatest == null || isLess(greatest, f) ? f : greatest;
            }
        }
        return new Pair(floor(least[0], least[1]), ceil(greatest[0], greatest[1]));
    }

    private static boolean isLess(BigInteger[] a, BigInteger[] b) {
        return a[0].multiply(b[1]).compareTo(b[0].multiply(a[1])) < 0;
    }

    /** The power as one fraction over factorials, the others by Euler's or the plain series. */
    private static BigInteger series(Made m, int p) {
        BigInteger unit = ten(p + GUARD);
        BigInteger sum = switch (m.kind) {
            case "arctan" -> euler(m.a, unit);
            case "artanh" -> plain(m.a, unit);
            default -> factorials(m.a, m.b, p + GUARD);
        };
        BigInteger slack = ten(GUARD / 2);
        BigInteger low = floor(sum.subtract(slack), ten(GUARD));
        if (!low.equals(floor(sum.add(slack), ten(GUARD)))) {
            throw new IllegalStateException("too few guard digits for " + m + " at " + p);
        }
        return low;
    }

    /** x / (1 + x^2) times the sum of (2 4 .. 2n) / (3 5 .. 2n + 1) / (1 + x^2)^n. */
    private static BigInteger euler(long x, BigInteger unit) {
        BigInteger square = BigInteger.valueOf(1 + x * x);
        BigInteger term = unit.multiply(BigInteger.valueOf(x)).divide(square);
        BigInteger sum = ZERO;
        for (long n = 1; term.signum() != 0; n++) {
            sum = sum.add(term);
            term = term.multiply(BigInteger.valueOf(2 * n))
                .divide(BigInteger.valueOf(2 * n + 1).multiply(square));
        }
        return sum;
    }

    private static BigInteger plain(long x, BigInteger unit) {
        BigInteger square = BigInteger.valueOf(x * x);
        BigInteger term = unit.divide(BigInteger.valueOf(x));
        BigInteger sum = ZERO;
        for (long n = 1; term.signum() != 0; n += 2) {
            sum = sum.add(term.divide(BigInteger.valueOf(n)));
            term = term.divide(square);
        }
        return sum;
    }

    /** Horner's rule from a term that is surely too small to be seen, without any rounding. */
    private static BigInteger factorials(long a, long b, int places) {
        int last = 60 + places;
        BigInteger over = ONE;
        BigInteger under = ONE;
        for (int k = last; k >= 1; k--) {
            BigInteger by = BigInteger.valueOf(b * k);
            over = under.multiply(by).add(over.multiply(BigInteger.valueOf(a)));
            under = under.multiply(by);
        }
        return floor(over.multiply(ten(places)), under);
    }
}
