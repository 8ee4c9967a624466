import java.util.Random;

/** Random runs of calls: the class and the model must answer alike, and stand alike after each. */
public final class ModelTest {
    private static final int RUNS = 150;
    private static final int CALLS = 90;
    private static final long[] WHOLES = {
        0, 1, -1, 2, -2, 3, 4, 9, 10, -10, 16, 99, 100, 144, 1000000007L, 999999999L, 1000000000L,
        1L << 62, -(1L << 62), (1L << 62) - 1, (1L << 62) + 1, Long.MAX_VALUE, Long.MIN_VALUE
    };
    private static final int[] XS = {2, 3, 5, 7, 10, 18, 57, 100, 239, 1000, 10000, 99999, 100000};
    private static final int[] WRONG = {Integer.MIN_VALUE, -2, -1, 61, 481, Integer.MAX_VALUE};

    private final Report report = new Report();
    private final Random random;
    private final boolean squares;
    private final EnclosedDigits it = new EnclosedDigits();
    private final Model model = new Model();

    private ModelTest(long seed) {
        random = new Random(seed);
        squares = seed % 3 == 0;
    }

    public static void main(String[] args) {
        int first = args.length > 0 ? Integer.parseInt(args[0]) : 1;
        int runs = args.length > 1 ? Integer.parseInt(args[1]) : RUNS;
        Report all = new Report();
        for (int seed = first; seed < first + runs; seed++) {
            ModelTest test = new ModelTest(seed);
            test.run();
            all.due("run with seed " + seed, test.report.isClean() ? 1 : 0, 1);
        }
        all.end();
    }

    private void run() {
        for (int i = 0; i < CALLS && report.isClean(); i++) {
            if (model.values() < 3 || random.nextInt(5) < 2) {
                make();
            } else {
                ask();
            }
            standAlike();
        }
    }

    private int any() {
        if (random.nextInt(25) == 0) {
            return WRONG[random.nextInt(WRONG.length)];
        }
        int most = Math.max(1, model.values());
        return random.nextInt(3) == 0 ? most - 1 : random.nextInt(most);
    }

    private long number() {
        return switch (random.nextInt(4)) {
            case 0 -> WHOLES[random.nextInt(WHOLES.length)];
            case 1 -> random.nextInt(41) - 20;
            case 2 -> random.nextLong() >> random.nextInt(64);
            default -> random.nextInt(2000001) - 1000000;
        };
    }

    private int x() {
        return random.nextInt(20) == 0
            ? random.nextInt(5) - 1
            : random.nextBoolean() ? XS[random.nextInt(XS.length)] : 2 + random.nextInt(99999);
    }

    private void make() {
        if (squares && model.values() > 0 && random.nextInt(3) > 0) {
            square();
            return;
        }
        switch (random.nextInt(12)) {
            case 0, 1 -> {
                long n = number();
                report.due("whole(" + n + ")", it.whole(n), model.whole(n));
            }
            case 2 -> {
                long a = number();
                long b = number();
                report.due("ratio(" + a + ", " + b + ")", it.ratio(a, b), model.ratio(a, b));
            }
            case 3 -> {
                int x = x();
                report.due("arctan(" + x + ")", it.arctan(x), model.arctan(x));
            }
            case 4 -> {
                int x = x();
                report.due("artanh(" + x + ")", it.artanh(x), model.artanh(x));
            }
            case 5 -> {
                int b = random.nextBoolean() ? 1 + random.nextInt(5) : random.nextInt(1002);
                int a = random.nextInt(10 * b + 3) - 5 * b - 1;
                report.due("power(" + a + ", " + b + ")", it.power(a, b), model.power(a, b));
            }
            case 6, 7 -> {
                int v = any();
                report.due("root(" + v + ")", it.root(v), model.root(v));
            }
            case 8 -> {
                int from = random.nextInt(6) == 0 ? any() : model.values() - random.nextInt(3);
                report.due("drop(" + from + ")", it.drop(from), model.drop(from));
            }
            default -> {
                int op = random.nextInt(25) == 0 ? random.nextInt(9) - 3 : random.nextInt(4);
                int a = any();
                int b = any();
                report.due("join(" + op + ", " + a + ", " + b + ")",
                    it.join(op, a, b), model.join(op, a, b));
            }
        }
    }

    /** Some runs make numbers that grow beyond 800 digits, or hide from 0 till a late precision. */
    private void square() {
        int last = model.values() - 1;
        int op = random.nextInt(4) == 0 ? 3 : 2;
        int other = op == 3 ? random.nextInt(last + 1) : last;
        report.due("square", it.join(op, last, other), model.join(op, last, other));
    }

    private void ask() {
        int v = any();
        switch (random.nextInt(4)) {
            case 0 -> {
                int n = random.nextBoolean() ? random.nextInt(20) : random.nextInt(405) - 2;
                report.due("digits(" + v + ", " + n + ")", it.digits(v, n), model.digits(v, n));
            }
            case 1 -> {
                int p = random.nextBoolean() ? random.nextInt(25) : random.nextInt(484) - 1;
                report.due("enclose(" + v + ", " + p + ")", it.enclose(v, p), model.enclose(v, p));
            }
            case 2 -> {
                int b = any();
                report.due("order(" + v + ", " + b + ")", it.order(v, b), model.order(v, b));
            }
            default -> {
                int k = random.nextBoolean() ? random.nextInt(5) : random.nextInt(44) - 1;
                report.due("quotients(" + v + ", " + k + ")",
                    it.quotients(v, k), model.quotients(v, k));
            }
        }
    }

    private void standAlike() {
        report.due("values()", it.values(), model.values());
        report.due("precision()", it.precision(), model.precision());
        report.due("length()", it.length(), model.length());
        report.due("many()", it.many(), model.many());
        for (int i = -2; i < 810; i += i < 30 ? 1 : 7) {
            report.due("digit(" + i + ")", it.digit(i), model.digit(i));
            report.due("bound(0, " + i + ")", it.bound(0, i), model.bound(0, i));
            report.due("bound(1, " + i + ")", it.bound(1, i), model.bound(1, i));
        }
        for (int i = -1; i < 42; i++) {
            report.due("quotient(" + i + ")", it.quotient(i), model.quotient(i));
        }
    }
}
