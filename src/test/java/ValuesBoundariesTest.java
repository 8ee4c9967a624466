import java.util.List;
import java.util.function.ToIntFunction;

/** The sentences on VALUES and on promises 1 to 10 that name a boundary, from both its sides. */
public final class ValuesBoundariesTest {
    private static final int NONE = EnclosedDigits.NONE;
    private static final int FULL = EnclosedDigits.FULL;
    private static final int LEAST = Integer.MIN_VALUE;
    private static final int MOST = Integer.MAX_VALUE;

    private record Make(String name, ToIntFunction<Counted> call) {
    }

    /** Each call that makes a VALUE, with inputs that are right as soon as there are 59. */
    private static final List<Make> MAKERS = List.of(
        new Make("whole(7)", x -> x.whole(7)),
        new Make("ratio(1, 7)", x -> x.ratio(1, 7)),
        new Make("arctan(2)", x -> x.arctan(2)),
        new Make("arctan(100000)", x -> x.arctan(100000)),
        new Make("artanh(2)", x -> x.artanh(2)),
        new Make("artanh(100000)", x -> x.artanh(100000)),
        new Make("power(-5, 1)", x -> x.power(-5, 1)),
        new Make("power(5000, 1000)", x -> x.power(5000, 1000)),
        new Make("root(0)", x -> x.root(0)),
        new Make("root(58)", x -> x.root(58)),
        new Make("join(0, 0, 58)", x -> x.join(0, 0, 58)),
        new Make("join(3, 58, 0)", x -> x.join(3, 58, 0)));

    /** The last wrong inputs of each, when there are 60 VALUES. */
    private static final List<Make> REFUSED = List.of(
        new Make("ratio(1, 0)", x -> x.ratio(1, 0)),
        new Make("arctan(1)", x -> x.arctan(1)),
        new Make("arctan(100001)", x -> x.arctan(100001)),
        new Make("artanh(1)", x -> x.artanh(1)),
        new Make("artanh(100001)", x -> x.artanh(100001)),
        new Make("power(0, 1)", x -> x.power(0, 1)),
        new Make("power(1, 0)", x -> x.power(1, 0)),
        new Make("power(1, 1001)", x -> x.power(1, 1001)),
        new Make("power(-6, 1)", x -> x.power(-6, 1)),
        new Make("power(5001, 1000)", x -> x.power(5001, 1000)),
        new Make("root(-1)", x -> x.root(-1)),
        new Make("root(60)", x -> x.root(60)),
        new Make("join(-1, 0, 0)", x -> x.join(-1, 0, 0)),
        new Make("join(4, 0, 0)", x -> x.join(4, 0, 0)),
        new Make("join(0, -1, 0)", x -> x.join(0, -1, 0)),
        new Make("join(0, 60, 0)", x -> x.join(0, 60, 0)),
        new Make("join(0, 0, -1)", x -> x.join(0, 0, -1)),
        new Make("join(0, 0, 60)", x -> x.join(0, 0, 60)));

    private final Report report = new Report();

    public static void main(String[] args) {
        ValuesBoundariesTest test = new ValuesBoundariesTest();
        test.noValues();
        test.nothingWasAsked();
        test.sixtyAtMost();
        test.fullOfAllThatMake();
        test.noneFirst();
        test.wholeOfAnySize();
        test.ratioByZero();
        test.arctanFromTwo();
        test.artanhLikewise();
        test.powerNotZero();
        test.powerBelow();
        test.powerFiveTimes();
        test.madeOfThoseBefore();
        test.joinOps();
        test.joinOfNoValue();
        test.noSuchValueBelow();
        test.dropFrom();
        test.dropOfNoneAndAll();
        test.goneOnes();
        test.inTheirPlace();
        test.howManyValues();
        test.report.end();
    }

    private void due(String call, long got, long want) {
        report.due(call, got, want);
    }

    /** Refused inputs leave the number of VALUES, accepted ones take the next number. */
    private void takes(Counted x, String call, int got, boolean right, int next) {
        due(call, got, right ? next : NONE);
        due("values() after " + call, x.values(), right ? next + 1 : next);
    }

    // ---- Promise 1

    private void noValues() {
        report.sentence("Promise 1: No VALUES");
        Counted x = new Counted();
        due("values()", x.values(), 0);
        due("root(0)", x.root(0), NONE);
        due("join(0, 0, 0)", x.join(0, 0, 0), NONE);
        due("digits(0, 0)", x.digits(0, 0), NONE);
        due("enclose(0, 1)", x.enclose(0, 1), NONE);
        due("order(0, 0)", x.order(0, 0), NONE);
        due("quotients(0, 1)", x.quotients(0, 1), NONE);
        due("the first VALUE", x.whole(0), 0);
        due("digits(0, 0) of it", x.digits(0, 0), 1);
    }

    private void nothingWasAsked() {
        report.sentence("Promise 1: nothing was asked");
        Counted x = new Counted();
        report.due("state", x.state(), Counted.state(0, 0, "", "0 0", ""));
        x.whole(3);
        report.due("state with a VALUE", x.state(), Counted.state(1, 0, "", "0 0", ""));
        due("digits(1, 0)", x.digits(1, 0), NONE);
        report.due("state after NONE", x.state(), Counted.state(1, 0, "", "0 0", ""));
    }

    // ---- Promise 2

    private void sixtyAtMost() {
        report.sentence("Terms: VALUES are numbered from 0 on, 60 at most");
        Counted x = new Counted();
        for (int i = 0; i < 60; i++) {
            due("whole(" + i + ")", x.whole(i), i);
        }
        due("whole(60)", x.whole(60), FULL);
        due("values()", x.values(), 60);
        report.due("the first", x.ends(0, 1, 3), "0 0");
        report.due("the last", x.ends(59, 1, 3), "590 590");
        report.due("none after it", x.ends(60, 1, 3), "NONE");
    }

    private void fullOfAllThatMake() {
        report.sentence("Promise 2: FULL (so of all that make a VALUE)");
        for (Make maker : MAKERS) {
            Counted x = Counted.ofWholes(59);
            due(maker.name + " with 59", maker.call.applyAsInt(x), 59);
            due(maker.name + " with 60", maker.call.applyAsInt(x), FULL);
            due("values()", x.values(), 60);
            due("drop(59)", x.drop(59), 1);
            due(maker.name + " with 59 again", maker.call.applyAsInt(x), 59);
        }
    }

    private void noneFirst() {
        report.sentence("Promise 2: NONE first");
        for (Make refused : REFUSED) {
            Counted x = Counted.ofWholes(60);
            due(refused.name + " with 60", refused.call.applyAsInt(x), NONE);
            due("values()", x.values(), 60);
        }
    }

    private void wholeOfAnySize() {
        report.sentence("Promise 2: A WHOLE: its number");
        Counted x = new Counted();
        long[] all = {Long.MIN_VALUE, Long.MIN_VALUE + 1, -1, 0, 1, Long.MAX_VALUE - 1,
            Long.MAX_VALUE};
        for (int i = 0; i < all.length; i++) {
            due("whole(" + all[i] + ")", x.whole(all[i]), i);
            String units = all[i] == 0 ? "0" : all[i] + "0";
            report.due("its ends at 1", x.ends(i, 1, 21), units + " " + units);
        }
    }

    // ---- Promises 3 to 6

    private void ratioByZero() {
        report.sentence("Promise 3: NONE: b is 0");
        Counted x = new Counted();
        for (long a : new long[] {Long.MIN_VALUE, -1, 0, 1, Long.MAX_VALUE}) {
            takes(x, "ratio(" + a + ", -1)", x.ratio(a, -1), true, 0);
            takes(x, "ratio(" + a + ", 0)", x.ratio(a, 0), false, 1);
            takes(x, "ratio(" + a + ", 1)", x.ratio(a, 1), true, 1);
            takes(x, "ratio(" + a + ", least)", x.ratio(a, Long.MIN_VALUE), true, 2);
            takes(x, "ratio(" + a + ", most)", x.ratio(a, Long.MAX_VALUE), true, 3);
            // The divisor's lower half alone is 0 here.
            takes(x, "ratio(" + a + ", 2^32)", x.ratio(a, 1L << 32), true, 4);
            x.drop(0);
        }
    }

    private static final int[][] XS = {
        {LEAST, 0}, {-100000, 0}, {-2, 0}, {-1, 0}, {0, 0}, {1, 0}, {2, 1}, {3, 1},
        {99999, 1}, {100000, 1}, {100001, 0}, {65536 * 2 + 5, 0}, {MOST, 0}
    };

    private void arctanFromTwo() {
        report.sentence("Terms: ARCTAN: x 2 .. 100000; promise 4: NONE: x");
        Counted x = new Counted();
        int next = 0;
        for (int[] row : XS) {
            takes(x, "arctan(" + row[0] + ")", x.arctan(row[0]), row[1] == 1, next);
            next += row[1];
        }
    }

    private void artanhLikewise() {
        report.sentence("Terms: ARTANH: x likewise; promise 5: NONE: x");
        Counted x = new Counted();
        int next = 0;
        for (int[] row : XS) {
            takes(x, "artanh(" + row[0] + ")", x.artanh(row[0]), row[1] == 1, next);
            next += row[1];
        }
    }

    private void powerNotZero() {
        report.sentence("Terms: POWER: a not 0; promise 6: NONE: a");
        for (int b : new int[] {1, 2, 999, 1000}) {
            Counted x = new Counted();
            takes(x, "power(-1, " + b + ")", x.power(-1, b), true, 0);
            takes(x, "power(0, " + b + ")", x.power(0, b), false, 1);
            takes(x, "power(1, " + b + ")", x.power(1, b), true, 1);
        }
    }

    private void powerBelow() {
        report.sentence("Terms: POWER: b 1 .. 1000; promise 6: NONE: b");
        for (int a : new int[] {-5, -1, 1, 5}) {
            Counted x = new Counted();
            takes(x, "power(" + a + ", least)", x.power(a, LEAST), false, 0);
            takes(x, "power(" + a + ", -1)", x.power(a, -1), false, 0);
            takes(x, "power(" + a + ", 0)", x.power(a, 0), false, 0);
            takes(x, "power(" + a + ", 1)", x.power(a, 1), true, 0);
            takes(x, "power(" + a + ", 1000)", x.power(a, 1000), true, 1);
            takes(x, "power(" + a + ", 1001)", x.power(a, 1001), false, 2);
            takes(x, "power(" + a + ", most)", x.power(a, MOST), false, 2);
        }
    }

    private void powerFiveTimes() {
        report.sentence("Terms: POWER: a from - 5 b to 5 b; promise 6: NONE: a");
        for (int b : new int[] {1, 2, 3, 200, 999, 1000}) {
            Counted x = new Counted();
            takes(x, "power(least, " + b + ")", x.power(LEAST, b), false, 0);
            takes(x, "power(- 5 b - 1, " + b + ")", x.power(-5 * b - 1, b), false, 0);
            takes(x, "power(- 5 b, " + b + ")", x.power(-5 * b, b), true, 0);
            takes(x, "power(5 b, " + b + ")", x.power(5 * b, b), true, 1);
            takes(x, "power(5 b + 1, " + b + ")", x.power(5 * b + 1, b), false, 2);
            takes(x, "power(most, " + b + ")", x.power(MOST, b), false, 2);
            report.due("e^-5 at 9", x.ends(0, 9, 12), "6737946 6737947");
            report.due("e^5 at 9", x.ends(1, 9, 12), "148413159102 148413159103");
        }
    }

    // ---- Promises 7 and 8

    private void madeOfThoseBefore() {
        report.sentence("Terms: each is made of those before it; "
            + "promise 7: NONE: there is no such VALUE");
        Counted x = new Counted();
        takes(x, "root(0) of none", x.root(0), false, 0);
        x.whole(16);
        int next = 1;
        for (int i = 0; i < 3; i++) {
            takes(x, "root(least)", x.root(LEAST), false, next);
            takes(x, "root(-1)", x.root(-1), false, next);
            takes(x, "root of itself", x.root(next), false, next);
            takes(x, "root(most)", x.root(MOST), false, next);
            takes(x, "root of the latest", x.root(next - 1), true, next);
            takes(x, "root(0)", x.root(0), true, next + 1);
            next += 2;
        }
    }

    private void joinOps() {
        report.sentence("Promise 8: op = 0 the sum, 1 difference, 2 product, 3 quotient. "
            + "NONE: another op");
        Counted x = new Counted();
        x.whole(7);
        x.whole(2);
        for (int op : new int[] {LEAST, -1, 4, 1 << 16, MOST}) {
            takes(x, "join(" + op + ", 0, 1)", x.join(op, 0, 1), false, 2);
        }
        String[] want = {"90 90", "50 50", "140 140", "35 35"};
        for (int op = 0; op < 4; op++) {
            takes(x, "join(" + op + ", 0, 1)", x.join(op, 0, 1), true, op + 2);
            report.due("its ends at 1", x.ends(op + 2, 1, 4), want[op]);
        }
    }

    private void joinOfNoValue() {
        report.sentence("Promise 8: NONE: there is no such VALUE");
        for (int op = 0; op < 4; op++) {
            Counted x = Counted.ofWholes(3);
            for (int wrong : new int[] {LEAST, -1, 3, 59, 60, MOST}) {
                takes(x, "join(" + op + ", " + wrong + ", 0)", x.join(op, wrong, 0), false, 3);
                takes(x, "join(" + op + ", 0, " + wrong + ")", x.join(op, 0, wrong), false, 3);
            }
            takes(x, "join(" + op + ", 0, 2)", x.join(op, 0, 2), true, 3);
            takes(x, "join(" + op + ", 3, 0)", x.join(op, 3, 0), true, 4);
        }
    }

    private void noSuchValueBelow() {
        report.sentence("Promise 8: there is no such VALUE (so also of all below)");
        Counted x = new Counted();
        x.whole(3);
        x.ratio(3, 2);
        for (int wrong : new int[] {LEAST, -1, 2, 59, 60, MOST}) {
            due("digits(" + wrong + ", 0)", x.digits(wrong, 0), NONE);
            due("enclose(" + wrong + ", 1)", x.enclose(wrong, 1), NONE);
            due("order(" + wrong + ", 0)", x.order(wrong, 0), NONE);
            due("order(0, " + wrong + ")", x.order(0, wrong), NONE);
            due("quotients(" + wrong + ", 1)", x.quotients(wrong, 1), NONE);
        }
        for (int v = 0; v < 2; v++) {
            due("digits(" + v + ", 0)", x.digits(v, 0), 1);
            due("enclose(" + v + ", 1)", x.enclose(v, 1), 1);
            due("order(" + v + ", of the other)", x.order(v, 1 - v), 1 - v);
            due("quotients(" + v + ", 1)", x.quotients(v, 1), 1);
        }
    }

    // ---- Promises 9 and 10

    private void dropFrom() {
        report.sentence("Promise 9: NONE: from is below 0, or above their number");
        Counted x = Counted.ofWholes(5);
        for (int wrong : new int[] {LEAST, -1, 6, 60, MOST}) {
            due("drop(" + wrong + ")", x.drop(wrong), NONE);
            due("values() after it", x.values(), 5);
        }
        due("drop(5)", x.drop(5), 0);
        due("values() after drop(5)", x.values(), 5);
        due("drop(4)", x.drop(4), 1);
        due("values() after drop(4)", x.values(), 4);
        due("drop(5), now above their number", x.drop(5), NONE);
        due("values() after NONE", x.values(), 4);
        due("drop(0)", x.drop(0), 4);
        due("values() after drop(0)", x.values(), 0);
    }

    private void dropOfNoneAndAll() {
        report.sentence("Promise 9: All VALUES from one on are gone: how many there were");
        Counted none = new Counted();
        due("drop(-1) of none", none.drop(-1), NONE);
        due("drop(0) of none", none.drop(0), 0);
        due("drop(1) of none", none.drop(1), NONE);
        Counted full = Counted.ofWholes(60);
        due("drop(61) of 60", full.drop(61), NONE);
        due("drop(60) of 60", full.drop(60), 0);
        due("whole(1)", full.whole(1), FULL);
        due("drop(59) of 60", full.drop(59), 1);
        due("whole(1)", full.whole(1), 59);
        due("drop(1) of 60", full.drop(1), 59);
        due("values()", full.values(), 1);
        Counted all = Counted.ofWholes(60);
        due("drop(0) of 60", all.drop(0), 60);
        due("values()", all.values(), 0);
    }

    private void goneOnes() {
        report.sentence("Promise 9: All VALUES from one on are gone");
        Counted x = Counted.ofWholes(5);
        due("drop(2)", x.drop(2), 3);
        for (int gone = 2; gone < 5; gone++) {
            due("root of it", x.root(gone), NONE);
            due("join with it", x.join(0, gone, 0), NONE);
            due("join by it", x.join(0, 0, gone), NONE);
            due("digits of it", x.digits(gone, 0), NONE);
            due("enclose of it", x.enclose(gone, 1), NONE);
            due("order of it", x.order(gone, 0), NONE);
            due("order by it", x.order(0, gone), NONE);
            due("quotients of it", x.quotients(gone, 1), NONE);
        }
        report.due("the last that is not gone", x.ends(1, 1, 3), "10 10");
        report.due("the first that is gone", x.ends(2, 1, 3), "NONE");
        due("the next made has its number", x.root(1), 2);
    }

    private void inTheirPlace() {
        report.sentence("Promise 9: what is made in the place of those that are gone");
        Counted x = new Counted();
        List<Make> makers = List.of(
            new Make("whole", y -> y.whole(3)),
            new Make("power", y -> y.power(1, 1)),
            new Make("arctan", y -> y.arctan(2)),
            new Make("artanh", y -> y.artanh(2)),
            new Make("ratio", y -> y.ratio(-1, 3)),
            new Make("root", y -> y.root(0)),
            new Make("quotient", y -> y.join(3, 0, 0)));
        String[] want = {"30000 30000", "27182 27183", "4636 4637", "5493 5494", "-3334 -3333",
            "14142 14143", "10000 10000"};
        x.whole(2);
        for (int i = 0; i < want.length; i++) {
            due(makers.get(i).name, makers.get(i).call.applyAsInt(x), 1);
            due("one made of it", x.join(0, 1, 1), 2);
            report.due(makers.get(i).name + " at 4", x.ends(1, 4, 6), want[i]);
            due("enclose of what is made of it", x.enclose(2, 4), 1);
            due("drop(1)", x.drop(1), 2);
        }
    }

    private void howManyValues() {
        report.sentence("Promise 10: How many VALUES there are");
        Counted x = new Counted();
        due("values() of none", x.values(), 0);
        for (int i = 1; i <= 60; i++) {
            x.whole(i);
            due("values()", x.values(), i);
        }
        x.whole(61);
        due("values() after FULL", x.values(), 60);
        x.drop(61);
        due("values() after NONE", x.values(), 60);
        x.drop(17);
        due("values() after drop(17)", x.values(), 17);
    }
}
