/**
 * An EnclosedDigits that is called no oftener than the document promises answers for, with
 * readings of it that take many calls.
 */
final class Counted {
    static final int MOST_CALLS = 512;
    private static final int LONG_TENS = 18;

    private final EnclosedDigits it = new EnclosedDigits();
    private int calls = 0;

    private EnclosedDigits call() {
        calls++;
        if (calls > MOST_CALLS) {
            throw new IllegalStateException("a test calls one object too often");
        }
        return it;
    }

    int left() {
        return MOST_CALLS - calls;
    }

    int whole(long n) {
        return call().whole(n);
    }

    int ratio(long a, long b) {
        return call().ratio(a, b);
    }

    int arctan(int x) {
        return call().arctan(x);
    }

    int artanh(int x) {
        return call().artanh(x);
    }

    int power(int a, int b) {
        return call().power(a, b);
    }

    int root(int v) {
        return call().root(v);
    }

    int join(int op, int a, int b) {
        return call().join(op, a, b);
    }

    int drop(int from) {
        return call().drop(from);
    }

    int values() {
        return call().values();
    }

    int digits(int v, int n) {
        return call().digits(v, n);
    }

    int digit(int i) {
        return call().digit(i);
    }

    int length() {
        return call().length();
    }

    int enclose(int v, int p) {
        return call().enclose(v, p);
    }

    int bound(int which, int i) {
        return call().bound(which, i);
    }

    int order(int a, int b) {
        return call().order(a, b);
    }

    int quotients(int v, int k) {
        return call().quotients(v, k);
    }

    long quotient(int i) {
        return call().quotient(i);
    }

    int many() {
        return call().many();
    }

    int precision() {
        return call().precision();
    }

    // ---- making

    static Counted ofWholes(int many) {
        Counted made = new Counted();
        for (int i = 0; i < many; i++) {
            made.whole(i);
        }
        return made;
    }

    static long ten(int n) {
        long power = 1;
        for (int i = 0; i < n; i++) {
            power *= 10;
        }
        return power;
    }

    /** 10^-n: at n and finer it is a whole number of units, at less it is between 0 and 1. */
    int tenth(int n) {
        int rest = ratio(1, ten(n % LONG_TENS));
        return n < LONG_TENS ? rest : raised(ratio(1, ten(LONG_TENS)), n / LONG_TENS, rest);
    }

    int tens(int n) {
        int rest = whole(ten(n % LONG_TENS));
        return n < LONG_TENS ? rest : raised(whole(ten(LONG_TENS)), n / LONG_TENS, rest);
    }

    private int raised(int of, int times, int rest) {
        int square = of;
        int product = rest;
        for (int left = times; left > 0; left /= 2) {
            if (left % 2 == 1) {
                product = join(2, product, square);
            }
            if (left > 1) {
                square = join(2, square, square);
            }
        }
        return product;
    }

    int minus(int v) {
        return join(1, whole(0), v);
    }

    // ---- reading

    /** L and H at p, of at most so many digits, or what enclose() answers instead. */
    String ends(int v, int p, int width) {
        int answer = enclose(v, p);
        return answer == 1 ? bounds(width) : named(answer);
    }

    static String named(long answer) {
        return answer == EnclosedDigits.NONE ? "NONE"
            : answer == EnclosedDigits.FULL ? "FULL"
            : answer == EnclosedDigits.OPEN ? "OPEN" : Long.toString(answer);
    }

    String bounds(int width) {
        return end(0, width) + " " + end(1, width);
    }

    private String end(int which, int width) {
        StringBuilder digits = new StringBuilder();
        for (int i = width; i >= 0; i--) {
            digits.append(bound(which, i));
        }
        String size = digits.toString().replaceFirst("^0+(?=.)", "");
        int sign = bound(which, -1);
        if (Math.abs(sign) != (size.equals("0") ? 0 : 1)) {
            return "sign " + sign + " of " + size;
        }
        return sign < 0 ? "-" + size : size;
    }

    /** THE DIGITS without their sign, and no text before any. */
    String digits() {
        StringBuilder text = new StringBuilder();
        for (int i = length() - 1; i >= 0; i--) {
            text.append(digit(i));
        }
        return text.toString();
    }

    String quotients() {
        StringBuilder text = new StringBuilder();
        int many = many();
        for (int i = 0; i < many; i++) {
            text.append(i == 0 ? "" : " ").append(quotient(i));
        }
        return text.toString();
    }

    /** All that can be read without asking anew. */
    String state() {
        return state(values(), precision(), digits(), bounds(6), quotients());
    }

    static String state(int values, int precision, String digits, String bounds, String quotients) {
        return "values " + values + ", precision " + precision + ", digits " + digits
            + ", bounds " + bounds + ", quotients " + quotients;
    }
}
