import java.util.Arrays;

/**
 * Real numbers, each enclosed between two whole numbers of units of 10^-p, p being made greater
 * till what is asked of them is settled. The document ../shared/DOC.md numbers the promises.
 */
public final class EnclosedDigits {
    public static final int NONE = -1;
    public static final int FULL = -2;
    public static final int OPEN = -3;

    private static final int MOST_VALUES = 60;
    private static final int MOST_PRECISION = 480;
    private static final int MOST_DIGITS = 800;
    private static final int MOST_PLACES = 400;
    private static final int MOST_QUOTIENTS = 40;
    private static final int LEAST_X = 2;
    private static final int MOST_X = 100000;
    private static final int MOST_BELOW = 1000;
    private static final int MOST_POWER = 5;
    private static final int SPARE_PLACES = 10;
    private static final long MOST_SHOWN = 1L << 62;

    private static final int WHOLE = 0;
    private static final int RATIO = 1;
    private static final int ARCTAN = 2;
    private static final int ARTANH = 3;
    private static final int POWER = 4;
    private static final int ROOT = 5;
    // The four that join() makes stand in the order of its op.
    private static final int SUM = 6;
    private static final int DIFFERENCE = 7;
    private static final int PRODUCT = 8;
    private static final int QUOTIENT = 9;

    private static final int BASE = 1000000000;
    private static final int LIMB_DIGITS = 9;
    private static final int[] TENS = {
        1, 10, 100, 1000, 10000, 100000, 1000000, 10000000, 100000000
    };
    private static final int DOWN = -1;
    private static final int UP = 1;

    private final Value[] slots = new Value[MOST_VALUES];
    private int count;
    private final Encloser encloser = new Encloser();

    private final Big shown = new Big();
    private final Big shownToo = new Big();
    private final Big theDigits = new Big();
    private int theLength;

    private final Big lowBound = new Big();
    private final Big highBound = new Big();

    private final Fraction lowFraction = new Fraction();
    private final Fraction highFraction = new Fraction();
    private final long[] theQuotients = new long[MOST_QUOTIENTS];
    private final long[] foundQuotients = new long[MOST_QUOTIENTS];
    private int quotientCount;

    private int settledAt;

    public EnclosedDigits() {
    }

    // ---- values

    public int whole(long n) {
        return make(WHOLE, n, 1, 0, 0);
    }

    public int ratio(long a, long b) {
        return b == 0 ? NONE : make(RATIO, a, b, 0, 0);
    }

    public int arctan(int x) {
        return x < LEAST_X || x > MOST_X ? NONE : make(ARCTAN, x, 1, 0, 0);
    }

    public int artanh(int x) {
        return x < LEAST_X || x > MOST_X ? NONE : make(ARTANH, x, 1, 0, 0);
    }

    public int power(int a, int b) {
        if (a == 0 || b < 1 || b > MOST_BELOW || a < -MOST_POWER * b || a > MOST_POWER * b) {
            return NONE;
        }
        return make(POWER, a, b, 0, 0);
    }

    public int root(int v) {
        return isValue(v) ? make(ROOT, 0, 0, v, v) : NONE;
    }

    public int join(int op, int a, int b) {
        if (op < 0 || op > QUOTIENT - SUM || !isValue(a) || !isValue(b)) {
            return NONE;
        }
        return make(SUM + op, 0, 0, a, b);
    }

    public int drop(int from) {
        if (from < 0 || from > count) {
            return NONE;
        }
        int gone = count - from;
        count = from;
        return gone;
    }

    public int values() {
        return count;
    }

    // ---- asked

    public int digits(int v, int n) {
        if (!isValue(v) || n < 0 || n > MOST_PLACES) {
            return NONE;
        }
        settledAt = 0;
        for (int p = n + SPARE_PLACES; p <= MOST_PRECISION; p *= 2) {
            if (digitsAreTold(encloser.enclosed(slots, v, p), p - n)) {
                theDigits.copy(shown);
                theLength = Math.max(1, shown.digitCount());
                settledAt = p;
                return theDigits.sign < 0 ? 0 : 1;
            }
        }
        return OPEN;
    }

    public int digit(int i) {
        return i < 0 ? NONE : theDigits.digitAt(i);
    }

    public int length() {
        return theLength;
    }

    public int enclose(int v, int p) {
        if (!isValue(v) || p < 1 || p > MOST_PRECISION) {
            return NONE;
        }
        Value value = encloser.enclosed(slots, v, p);
        if (value == null || value.open) {
            return OPEN;
        }
        lowBound.copy(value.low);
        highBound.copy(value.high);
        return 1;
    }

    public int bound(int which, int i) {
        if (which < 0 || which > 1 || i < -1) {
            return NONE;
        }
        Big asked = which == 0 ? lowBound : highBound;
        return i == -1 ? asked.sign : asked.digitAt(i);
    }

    public int order(int a, int b) {
        if (!isValue(a) || !isValue(b)) {
            return NONE;
        }
        settledAt = 0;
        for (int p = SPARE_PLACES; p <= MOST_PRECISION; p *= 2) {
            int side = sideOf(encloser.enclosed(slots, a, p), encloser.enclosed(slots, b, p));
            if (side != 0) {
                settledAt = p;
                return side > 0 ? 1 : 0;
            }
        }
        return OPEN;
    }

    public int quotients(int v, int k) {
        if (!isValue(v) || k < 1 || k > MOST_QUOTIENTS) {
            return NONE;
        }
        settledAt = 0;
        for (int p = 2 * k + SPARE_PLACES; p <= MOST_PRECISION; p *= 2) {
            if (quotientsAreTold(encloser.enclosed(slots, v, p), k, p)) {
                System.arraycopy(foundQuotients, 0, theQuotients, 0, k);
                quotientCount = k;
                settledAt = p;
                return 1;
            }
        }
        return OPEN;
    }

    public long quotient(int i) {
        return i < 0 || i >= quotientCount ? 0 : theQuotients[i];
    }

    public int many() {
        return quotientCount;
    }

    public int precision() {
        return settledAt;
    }

    // ---- what these are made of

    private boolean isValue(int v) {
        return v >= 0 && v < count;
    }

    /** A slot that drop() left free is used again: so no run makes more than 60 of them. */
    private int make(int kind, long a, long b, int first, int second) {
        if (count >= MOST_VALUES) {
            return FULL;
        }
        Value slot = slots[count];
        if (slot == null) {
            slot = new Value();
            slots[count] = slot;
        }
        slot.become(kind, a, b);
        slot.stemFrom(first, second);
        count++;
        return count - 1;
    }

    /** Leaves the digits in shown, apart from THE DIGITS, which must stay till these are told. */
    private boolean digitsAreTold(Value value, int tooMany) {
        if (value == null || value.open) {
            return false;
        }
        shown.copy(value.low);
        shown.shrink(tooMany, DOWN);
        shownToo.copy(value.high);
        shownToo.shrink(tooMany, DOWN);
        return shown.compare(shownToo) == 0;
    }

    /** 1: a is greater; -1: it is less; 0: it can't be told from these enclosures. */
    private static int sideOf(Value a, Value b) {
        if (a == null || b == null || a.open || b.open) {
            return 0;
        }
        if (b.high.compare(a.low) < 0) {
            return 1;
        }
        return a.high.compare(b.low) < 0 ? -1 : 0;
    }

    /**
     * Both fractions go on side by side, so that quotients of any length are compared whole and
     * only what quotient() can show of them is kept.
     */
    private boolean quotientsAreTold(Value value, int k, int p) {
        if (value == null || value.open) {
            return false;
        }
        lowFraction.start(value.low, p);
        highFraction.start(value.high, p);
        for (int i = 0; i < k && i < foundQuotients.length; i++) {
            if (!lowFraction.step(encloser.bench) || !highFraction.step(encloser.bench)) {
                return false;
            }
            if (lowFraction.latest.compare(highFraction.latest) != 0) {
                return false;
            }
            foundQuotients[i] = lowFraction.latest.clamped();
        }
        return true;
    }

    /** One VALUE: what it is made of, and its enclosure at the precision that was last needed. */
    private static final class Value {
        int kind;
        long a;
        long b;
        int first;
        int second;
        int at;
        boolean open;
        final Big low = new Big();
        final Big high = new Big();
        int fineAt;
        final Big fine = new Big();

        void become(int newKind, long newA, long newB) {
            kind = newKind;
            a = newA;
            b = newB;
            at = 0;
            fineAt = 0;
        }

        void stemFrom(int newFirst, int newSecond) {
            first = newFirst;
            second = newSecond;
        }
    }

    /** Fills in enclosures, by the rules that the document has for each kind of VALUE. */
    private static final class Encloser {
        final Bench bench = new Bench();
        private final Series series = new Series();
        private final Big down = new Big();
        private final Big up = new Big();
        private final Big over = new Big();
        private final Big under = new Big();
        private final Big rest = new Big();

        /** The VALUE with its enclosure at p; null if there is no such VALUE. */
        Value enclosed(Value[] slots, int v, int p) {
            if (v < 0 || v >= slots.length) {
                return null;
            }
            long needed = neededFor(slots, v, p);
            for (int i = 0; i <= v; i++) {
                Value value = slots[i];
                if (value == null || !isMarked(needed, i)) {
                    continue;
                }
                Value first = partOf(slots, value.first, i);
                Value second = partOf(slots, value.second, i);
                value.at = p;
                value.open = value.kind >= ROOT && (isOpen(first) || isOpen(second));
                if (value.open) {
                    continue;
                }
                switch (value.kind) {
                    case WHOLE:
                        fillWhole(value, p);
                        break;
                    case RATIO:
                        fillRatio(value, p);
                        break;
                    case ARCTAN:
                    case ARTANH:
                    case POWER:
                        series.refine(value, p);
                        fillFromFine(value, p);
                        break;
                    case ROOT:
                        fillRoot(value, first, p);
                        break;
                    case SUM:
                        fillSum(value, first, second);
                        break;
                    case DIFFERENCE:
                        fillDifference(value, first, second);
                        break;
                    default:
                        fillCorners(value, first, second, p);
                        break;
                }
                value.open = value.open || isTooLong(value.low) || isTooLong(value.high);
            }
            return slots[v];
        }

        /** A bit for each VALUE whose enclosure at p v waits for: 60 VALUES fit into one long. */
        private static long neededFor(Value[] slots, int v, int p) {
            long needed = 1L << v;
            for (int i = v; i >= 0; i--) {
                Value value = slots[i];
                if (value == null || !isMarked(needed, i)) {
                    continue;
                }
                if (value.at == p) {
                    needed &= ~(1L << i);
                } else if (value.kind >= ROOT) {
                    needed |= 1L << value.first | 1L << value.second;
                }
            }
            return needed;
        }

        private static boolean isMarked(long marks, int i) {
            return (marks >>> i & 1L) != 0;
        }

        private static Value partOf(Value[] slots, int part, int whole) {
            return part < 0 || part >= whole || part >= slots.length ? null : slots[part];
        }

        private static boolean isOpen(Value v) {
            return v == null || v.open;
        }

        /** Of an exact one both ends are the same, and need not both be worked with. */
        private static boolean isExact(Value v) {
            return v.low.compare(v.high) == 0;
        }

        private static boolean isTooLong(Big end) {
            return end.digitCount() > MOST_DIGITS;
        }

        private static void fillWhole(Value v, int p) {
            v.low.setLong(v.a);
            v.low.shiftUp(p);
            v.high.copy(v.low);
        }

        private void fillRatio(Value v, int p) {
            over.setLong(v.a);
            over.shiftUp(p);
            under.setLong(v.b);
            divideBothWays(over, under);
            v.low.copy(down);
            v.high.copy(up);
        }

        /**
         * The floor at fewer places is the finer floor cut off. What a series sums up to is never
         * a whole number of units, so H is one more than L.
         */
        private static void fillFromFine(Value v, int p) {
            v.low.copy(v.fine);
            v.low.shrink(v.fineAt - p, DOWN);
            v.high.copy(v.low);
            v.high.grow(1);
        }

        private static void fillSum(Value v, Value first, Value second) {
            v.low.copy(first.low);
            v.low.add(second.low);
            v.high.copy(first.high);
            v.high.add(second.high);
        }

        private static void fillDifference(Value v, Value first, Value second) {
            v.low.copy(first.low);
            v.low.subtract(second.high);
            v.high.copy(first.high);
            v.high.subtract(second.low);
        }

        private void fillRoot(Value v, Value of, int p) {
            if (of.high.sign < 0) {
                v.open = true;
                return;
            }
            over.copy(of.low);
            over.shiftUp(p);
            boolean isMore = bench.squareRoot(over, v.low);
            v.high.copy(v.low);
            if (!isExact(of)) {
                over.copy(of.high);
                over.shiftUp(p);
                isMore = bench.squareRoot(over, v.high);
            }
            if (isMore) {
                v.high.grow(1);
            }
        }

        /**
         * Rounding keeps the order of numbers, so the least rounded down is the least of all four
         * rounded down, and the same of the greatest: no unrounded quotient need be compared.
         */
        private void fillCorners(Value v, Value first, Value second, int p) {
            boolean divides = v.kind != PRODUCT;
            if (divides && second.low.sign <= 0 && second.high.sign >= 0) {
                v.open = true;
                return;
            }
            int lefts = isExact(first) ? 1 : 2;
            int rights = isExact(second) ? 1 : 2;
            for (int i = 0; i < lefts; i++) {
                for (int j = 0; j < rights; j++) {
                    Big left = i == 0 ? first.low : first.high;
                    Big right = j == 0 ? second.low : second.high;
                    if (divides) {
                        over.copy(left);
                        over.shiftUp(p);
                        divideBothWays(over, right);
                    } else {
                        multiplyBothWays(left, right, p);
                    }
                    if (i + j == 0 || down.compare(v.low) < 0) {
                        v.low.copy(down);
                    }
                    if (i + j == 0 || up.compare(v.high) > 0) {
                        v.high.copy(up);
                    }
                }
            }
        }

        private void multiplyBothWays(Big left, Big right, int p) {
            down.setProduct(left, right);
            up.copy(down);
            down.shrink(p, DOWN);
            up.shrink(p, UP);
        }

        private void divideBothWays(Big dividend, Big divisor) {
            int sign = dividend.sign * divisor.sign;
            bench.divide(dividend, divisor, down, rest);
            down.sign *= sign;
            up.copy(down);
            if (rest.sign != 0) {
                Big away = sign < 0 ? down : up;
                away.grow(sign);
            }
        }
    }

    /** The floors of the numbers that are sums of endless series. */
    private static final class Series {
        // Few enough that some numbers need a second try: else no test could see it.
        private static final int FIRST_GUARD = 12;
        private static final int MOST_TRIES = 6;
        private static final int MOST_TERMS = 10000;
        // Each term is cut off by less than 20 of the smallest units, and there are at most
        // MOST_TERMS of them, so the sum is nearer than this.
        private static final int SLACK = 1000000;
        // A greater square times BASE may be more than a long holds.
        private static final int MOST_SQUARED = 90000;

        private final Big term = new Big();
        private final Big part = new Big();
        private final Big plus = new Big();
        private final Big minus = new Big();
        private final Big slack = new Big();

        /**
         * Sees to it that v has its floor at p or finer. With too few guard digits both ends of
         * the sum's slack may have different floors: then it is summed again with more of them.
         */
        void refine(Value v, int p) {
            int guard = FIRST_GUARD;
            slack.setLong(SLACK);
            for (int i = 0; i < MOST_TRIES && v.fineAt < p; i++) {
                plus.clear();
                minus.clear();
                if (v.kind == POWER) {
                    sumPower(v.a, v.b, p + guard);
                } else {
                    sumTangent(v.a, v.kind == ARCTAN, p + guard);
                }
                plus.subtract(minus);
                v.fine.copy(plus);
                v.fine.subtract(slack);
                v.fine.shrink(guard, DOWN);
                plus.add(slack);
                plus.shrink(guard, DOWN);
                if (plus.compare(v.fine) == 0 || i == MOST_TRIES - 1) {
                    v.fineAt = p;
                }
                guard *= 2;
            }
        }

        /** 1 / x, 1 / 3 x^3, 1 / 5 x^5 ..: every other one is taken away for the arctangent. */
        private void sumTangent(long x, boolean alternates, int places) {
            boolean isSmall = x <= MOST_SQUARED;
            term.setLong(1);
            term.shiftUp(places);
            term.divideSmall(x);
            for (int i = 0; i < MOST_TERMS && term.sign != 0; i++) {
                part.copy(term);
                part.divideSmall(2L * i + 1);
                Big side = alternates && i % 2 == 1 ? minus : plus;
                side.add(part);
                term.divideSmall(isSmall ? x * x : x);
                if (!isSmall) {
                    term.divideSmall(x);
                }
            }
        }

        private void sumPower(long a, long b, int places) {
            term.setLong(1);
            term.shiftUp(places);
            for (int i = 0; i < MOST_TERMS && term.sign != 0; i++) {
                Big side = a < 0 && i % 2 == 1 ? minus : plus;
                side.add(term);
                term.multiplySmall(Math.abs(a));
                term.divideSmall(b * (i + 1));
            }
        }
    }

    /** The continued fraction of a number of units, a quotient at each step. */
    private static final class Fraction {
        private Big over = new Big();
        private Big under = new Big();
        private Big rest = new Big();
        final Big latest = new Big();

        void start(Big units, int p) {
            over.copy(units);
            under.setLong(1);
            under.shiftUp(p);
        }

        /** False: the number before was whole, there is no further quotient. */
        boolean step(Bench bench) {
            if (under.sign == 0) {
                return false;
            }
            bench.divide(over, under, latest, rest);
            if (over.sign < 0) {
                roundDown();
            }
            Big free = over;
            over = under;
            under = rest;
            rest = free;
            return true;
        }

        /** Only the first number can be below 0: what is over after it is always above. */
        private void roundDown() {
            latest.sign = -latest.sign;
            if (rest.sign != 0) {
                latest.grow(-1);
                rest.sign = -rest.sign;
                rest.add(under);
            }
        }
    }

    /** Long division and roots, with the rows that they need, kept to be used again. */
    private static final class Bench {
        private static final int MOST_ROUNDS = 200;
        private static final int MOST_MENDS = 4;
        private static final int LIMB_BITS = 30;

        private final Big dividend = new Big();
        private final Big divisor = new Big();
        private final Big part = new Big();
        private final Big better = new Big();
        private final Big rest = new Big();

        /**
         * Without signs: quotient and remainder of a by b; both 0 if b is. They may stand in a's
         * or b's place, since a and b are copied before the answers are written.
         */
        void divide(Big a, Big b, Big quotient, Big remainder) {
            dividend.copy(a);
            divisor.copy(b);
            dividend.sign = Math.abs(a.sign);
            quotient.clear();
            int places = dividend.size - divisor.size + 1;
            if (divisor.size == 0) {
                dividend.clear();
            } else if (divisor.size == 1) {
                quotient.copy(dividend);
                dividend.setLong(quotient.divideSmall(divisor.limbAt(0)));
            } else if (places > 0) {
                // Knuth's algorithm D guesses well only if the divisor's highest limb is large.
                int scale = BASE / (divisor.limbAt(divisor.size - 1) + 1);
                dividend.extend(dividend.size + 1);
                dividend.multiplyLimbs(scale);
                divisor.multiplyLimbs(scale);
                quotient.extend(places);
                for (int j = places - 1; j >= 0; j--) {
                    quotient.limbs[j] = takeAway(j);
                }
                quotient.trim(1);
                dividend.trim(1);
                dividend.divideSmall(scale);
            }
            remainder.copy(dividend);
        }

        /** Takes the divisor, j limbs up, away from the dividend as often as it goes. */
        private int takeAway(int j) {
            int n = divisor.size;
            if (n < 2 || n + j >= dividend.size) {
                return 0;
            }
            long guess = guessLimb(n, n + j);
            long carry = 0;
            for (int i = 0; i < n; i++) {
                long product = guess * divisor.limbs[i] + carry;
                carry = product / BASE;
                long left = dividend.limbs[i + j] - (product - carry * BASE);
                if (left < 0) {
                    left += BASE;
                    carry++;
                }
                dividend.limbs[i + j] = (int) left;
            }
            long top = dividend.limbs[n + j] - carry;
            dividend.limbs[n + j] = (int) top;
            if (top < 0) {
                giveBack(n, j);
                guess--;
            }
            return (int) guess;
        }

        /** From the highest limbs, then mended by the next: it is at most one too great. */
        private long guessLimb(int n, int at) {
            long first = divisor.limbs[n - 1];
            long second = divisor.limbs[n - 2];
            if (first <= 0) {
                return 0;
            }
            long top = (long) dividend.limbs[at] * BASE + dividend.limbs[at - 1];
            long next = dividend.limbs[at - 2];
            long guess = top / first;
            long over = top - guess * first;
            for (int i = 0; i < MOST_MENDS && over < BASE; i++) {
                if (guess < BASE && guess * second <= over * BASE + next) {
                    break;
                }
                guess--;
                over += first;
            }
            return guess;
        }

        private void giveBack(int n, int j) {
            int carry = 0;
            for (int i = 0; i < n; i++) {
                int sum = dividend.limbs[i + j] + divisor.limbs[i] + carry;
                carry = sum >= BASE ? 1 : 0;
                dividend.limbs[i + j] = sum - carry * BASE;
            }
            dividend.limbs[n + j] += carry;
        }

        /**
         * The greatest whole number whose square is not above n (0 if n is below 0); true if its
         * square is less than n. Newton's rounds come down from a start above the root, and the
         * first that does not come further down has found it: first of the highest pair of limbs,
         * then of twice as many pairs, from one more than was found, till all pairs are seen.
         */
        boolean squareRoot(Big n, Big root) {
            root.clear();
            if (n.sign <= 0) {
                return false;
            }
            int unseen = (n.size - 1) / 2;
            int seen = 1;
            root.setLong(startAbove(n, unseen));
            for (int i = 0; i < MOST_ROUNDS; i++) {
                part.copy(n);
                part.shrink(2 * unseen * LIMB_DIGITS, DOWN);
                divide(part, root, better, rest);
                better.add(root);
                better.divideSmall(2);
                if (better.compare(root) < 0) {
                    root.copy(better);
                } else if (unseen > 0) {
                    int more = Math.min(seen, unseen);
                    root.grow(1);
                    root.shiftUp(more * LIMB_DIGITS);
                    seen += more;
                    unseen -= more;
                } else {
                    break;
                }
            }
            better.setProduct(root, root);
            return better.compare(n) < 0;
        }

        /** One more than the root of what stands above the lower pairs of limbs. */
        private static long startAbove(Big n, int pairs) {
            long top = (long) n.limbAt(2 * pairs + 1) * BASE + n.limbAt(2 * pairs);
            long start = 0;
            for (int bit = LIMB_BITS - 1; bit >= 0; bit--) {
                long more = start + (1L << bit);
                if (more * more <= top) {
                    start = more;
                }
            }
            return start + 1;
        }
    }

    /**
     * A whole number that is changed in place: so a run makes few objects. Its limbs are nine
     * decimal digits each, the lowest first, since all that is asked of it is asked in decimals.
     */
    private static final class Big {
        private static final int FIRST_ROOM = 8;

        int sign;
        int size;
        int[] limbs = new int[FIRST_ROOM];

        int limbAt(int i) {
            return i < 0 || i >= size || i >= limbs.length ? 0 : limbs[i];
        }

        /**
         * Makes it at least so many limbs long, with zeros on top, for a caller that writes them
         * and then trims. Rows grow by doubling, so a number makes few of them in a run.
         */
        void extend(int room) {
            if (room > limbs.length) {
                limbs = Arrays.copyOf(limbs, Math.max(room, 2 * limbs.length));
            }
            for (int i = size; i < room; i++) {
                limbs[i] = 0;
            }
            size = Math.max(size, room);
        }

        /** Takes zeros off the top; what is left has the sign given, if it is not 0. */
        void trim(int signIfAny) {
            int top = Math.min(size, limbs.length);
            while (top > 0 && limbs[top - 1] == 0) {
                top--;
            }
            size = top;
            sign = top == 0 ? 0 : signIfAny;
        }

        void clear() {
            size = 0;
            sign = 0;
        }

        void copy(Big other) {
            extend(other.size);
            System.arraycopy(other.limbs, 0, limbs, 0, other.size);
            size = other.size;
            sign = other.sign;
        }

        /** Counts below 0, where the least long has room and its opposite has none. */
        void setLong(long n) {
            long left = n < 0 ? n : -n;
            clear();
            extend(3);
            for (int i = 0; i < 3; i++) {
                limbs[i] = (int) -(left % BASE);
                left /= BASE;
            }
            trim(n < 0 ? -1 : 1);
        }

        /** As a long; 2^62 or - 2^62 beyond these. */
        long clamped() {
            if (size > 3 || limbAt(2) > 4) {
                return sign < 0 ? -MOST_SHOWN : MOST_SHOWN;
            }
            long high = (long) limbAt(2) * BASE + limbAt(1);
            return sign * Math.min(high * BASE + limbAt(0), MOST_SHOWN);
        }

        int digitCount() {
            int top = limbAt(size - 1);
            int digits = 0;
            while (digits < TENS.length && top >= TENS[digits]) {
                digits++;
            }
            return size <= 0 ? 0 : (size - 1) * LIMB_DIGITS + digits;
        }

        int digitAt(int i) {
            return i < 0 ? 0 : limbAt(i / LIMB_DIGITS) / TENS[i % LIMB_DIGITS] % 10;
        }

        /** Compares without signs. */
        int compareSizes(Big other) {
            if (size != other.size) {
                return size < other.size ? -1 : 1;
            }
            for (int i = size - 1; i >= 0; i--) {
                int difference = limbs[i] - other.limbs[i];
                if (difference != 0) {
                    return difference < 0 ? -1 : 1;
                }
            }
            return 0;
        }

        int compare(Big other) {
            if (sign != other.sign) {
                return sign < other.sign ? -1 : 1;
            }
            return sign * compareSizes(other);
        }

        /** One further from 0; from 0 itself, to the side of the sign given. */
        void grow(int signIfZero) {
            int side = sign == 0 ? signIfZero : sign;
            extend(size + 1);
            int i = 0;
            while (i < size - 1 && limbs[i] == BASE - 1) {
                limbs[i] = 0;
                i++;
            }
            limbs[i]++;
            trim(side);
        }

        void add(Big other) {
            if (other.sign == 0) {
                return;
            }
            if (sign == 0 || sign == other.sign) {
                addLimbs(other, other.sign);
            } else if (compareSizes(other) >= 0) {
                subtractLimbs(other, 1, sign);
            } else {
                subtractLimbs(other, -1, other.sign);
            }
        }

        void subtract(Big other) {
            if (other == this) {
                clear();
                return;
            }
            sign = -sign;
            add(other);
            sign = -sign;
        }

        private void addLimbs(Big other, int newSign) {
            extend(Math.max(size, other.size) + 1);
            int carry = 0;
            for (int i = 0; i < size && (i < other.size || carry > 0); i++) {
                int sum = limbs[i] + (i < other.size ? other.limbs[i] : 0) + carry;
                carry = sum >= BASE ? 1 : 0;
                limbs[i] = sum - carry * BASE;
            }
            trim(newSign);
        }

        /** This less the other (way 1) or the other less this (way -1), whichever is not below 0. */
        private void subtractLimbs(Big other, int way, int newSign) {
            extend(Math.max(size, other.size));
            int borrow = 0;
            for (int i = 0; i < size; i++) {
                int less = i < other.size ? other.limbs[i] : 0;
                int left = way * (limbs[i] - less) - borrow;
                borrow = left < 0 ? 1 : 0;
                limbs[i] = left + borrow * BASE;
            }
            trim(newSign);
        }

        /** The factor is from 0 to BASE. */
        void multiplySmall(long factor) {
            extend(size + 1);
            multiplyLimbs(factor);
            trim(sign);
        }

        /** For a caller that knows that the product has no more limbs, or has made room. */
        void multiplyLimbs(long factor) {
            long carry = 0;
            for (int i = 0; i < size; i++) {
                long product = limbs[i] * factor + carry;
                carry = product / BASE;
                limbs[i] = (int) (product - carry * BASE);
            }
        }

        /** Cuts the quotient off, answers the remainder without its sign; small is 1 to 9 BASE. */
        long divideSmall(long small) {
            if (small < 1) {
                return 0;
            }
            long left = 0;
            for (int i = size - 1; i >= 0; i--) {
                long dividend = left * BASE + limbs[i];
                long quotient = dividend / small;
                limbs[i] = (int) quotient;
                left = dividend - quotient * small;
            }
            trim(sign);
            return left;
        }

        /** Neither of the two may be this one. */
        void setProduct(Big a, Big b) {
            clear();
            extend(a.size + b.size);
            for (int i = 0; i < a.size; i++) {
                long factor = a.limbs[i];
                long carry = 0;
                // The ends of WHOLES are mostly zeros.
                for (int j = 0; j < b.size && factor != 0; j++) {
                    long sum = factor * b.limbs[j] + limbs[i + j] + carry;
                    carry = sum / BASE;
                    limbs[i + j] = (int) (sum - carry * BASE);
                }
                limbs[i + b.size] = (int) carry;
            }
            trim(a.sign * b.sign);
        }

        /** Times 10^places. */
        void shiftUp(int places) {
            if (places <= 0 || sign == 0) {
                return;
            }
            int up = places / LIMB_DIGITS;
            int was = size;
            extend(was + up);
            System.arraycopy(limbs, 0, limbs, up, was);
            Arrays.fill(limbs, 0, up, 0);
            multiplySmall(TENS[places % LIMB_DIGITS]);
        }

        /** Divided by 10^places, and rounded DOWN or UP. */
        void shrink(int places, int toward) {
            if (places <= 0 || sign == 0) {
                return;
            }
            int side = sign;
            boolean lost = shiftDown(places / LIMB_DIGITS);
            if (divideSmall(TENS[places % LIMB_DIGITS]) != 0) {
                lost = true;
            }
            if (lost && side == toward) {
                grow(side);
            }
        }

        /** Cuts whole limbs off; true if one of them was not 0. */
        private boolean shiftDown(int lowest) {
            int cut = Math.min(lowest, size);
            boolean lost = false;
            for (int i = 0; i < cut; i++) {
                if (limbs[i] != 0) {
                    lost = true;
                }
            }
            System.arraycopy(limbs, cut, limbs, 0, size - cut);
            size -= cut;
            trim(sign);
            return lost;
        }
    }
}
