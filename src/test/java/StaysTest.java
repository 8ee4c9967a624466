import java.util.ArrayList;
import java.util.List;
import java.util.function.ToLongFunction;

/**
 * What a call answers and what stays as it was: after one that is refused or not settled all
 * that is not said to change, after another all but what it is for.
 */
public final class StaysTest {
    private static final int NONE = EnclosedDigits.NONE;
    private static final int FULL = EnclosedDigits.FULL;
    private static final int OPEN = EnclosedDigits.OPEN;
    private static final String DIGITS = "1414";
    private static final String BOUNDS = "-3334 -3333";
    private static final String QUOTIENTS = "1 2 2";
    private static final String SAME = state(6, 10);
    private static final String NOT_SETTLED = state(6, 0);

    private final Report report = new Report();

    public static void main(String[] args) {
        StaysTest test = new StaysTest();
        test.refused();
        test.refusedWhenFull();
        test.notSettled();
        test.notSettledFirst();
        test.settled();
        test.made();
        test.dropped();
        test.readOnly();
        test.report.end();
    }

    private static String state(int values, int precision) {
        return Counted.state(values, precision, DIGITS, BOUNDS, QUOTIENTS);
    }

    /** One with something in every place: VALUE 3 is never settled, VALUE 5 is OPEN. */
    private static Counted livedIn() {
        Counted x = new Counted();
        x.whole(2);
        x.root(0);
        x.ratio(-1, 3);
        x.join(2, 1, 1);
        x.whole(-1);
        x.root(4);
        x.enclose(2, 4);
        x.digits(1, 3);
        x.quotients(1, 3);
        x.order(0, 2);
        return x;
    }

    private static final String VALUES =
        "200 200, 141 142, -34 -33, 198 202, -100 -100, OPEN, ";

    /** The enclosures of the first six at 2, after which the bounds are no more those before. */
    private static String valuesOf(Counted x) {
        StringBuilder text = new StringBuilder();
        for (int v = 0; v < 6; v++) {
            text.append(x.ends(v, 2, 5)).append(", ");
        }
        return text.toString();
    }

    private record Row(String name, ToLongFunction<Counted> call, long answer, String after) {
    }

    private void run(List<Row> rows) {
        for (Row row : rows) {
            Counted x = livedIn();
            report.due("before " + row.name, x.state(), SAME);
            report.due(row.name, row.call.applyAsLong(x), row.answer);
            report.due("after " + row.name, x.state(), row.after);
            if (x.values() >= 6) {
                report.due("VALUES after " + row.name, valuesOf(x), VALUES);
            }
        }
    }

    private static void none(List<Row> rows, String name, ToLongFunction<Counted> call) {
        rows.add(new Row(name, call, NONE, SAME));
    }

    private void refused() {
        report.sentence("Terms: NONE: There is none, or nothing is done");
        List<Row> rows = new ArrayList<>();
        none(rows, "ratio(1, 0)", x -> x.ratio(1, 0));
        none(rows, "arctan(1)", x -> x.arctan(1));
        none(rows, "arctan(100001)", x -> x.arctan(100001));
        none(rows, "artanh(1)", x -> x.artanh(1));
        none(rows, "artanh(100001)", x -> x.artanh(100001));
        none(rows, "power(0, 1)", x -> x.power(0, 1));
        none(rows, "power(1, 0)", x -> x.power(1, 0));
        none(rows, "power(1, 1001)", x -> x.power(1, 1001));
        none(rows, "power(6, 1)", x -> x.power(6, 1));
        none(rows, "power(-6, 1)", x -> x.power(-6, 1));
        none(rows, "root(-1)", x -> x.root(-1));
        none(rows, "root(6)", x -> x.root(6));
        none(rows, "join(-1, 0, 1)", x -> x.join(-1, 0, 1));
        none(rows, "join(4, 0, 1)", x -> x.join(4, 0, 1));
        none(rows, "join(0, -1, 1)", x -> x.join(0, -1, 1));
        none(rows, "join(0, 6, 1)", x -> x.join(0, 6, 1));
        none(rows, "join(0, 0, -1)", x -> x.join(0, 0, -1));
        none(rows, "join(0, 0, 6)", x -> x.join(0, 0, 6));
        none(rows, "drop(-1)", x -> x.drop(-1));
        none(rows, "drop(7)", x -> x.drop(7));
        none(rows, "digits(-1, 2)", x -> x.digits(-1, 2));
        none(rows, "digits(6, 2)", x -> x.digits(6, 2));
        none(rows, "digits(0, -1)", x -> x.digits(0, -1));
        none(rows, "digits(0, 401)", x -> x.digits(0, 401));
        none(rows, "digit(-1)", x -> x.digit(-1));
        none(rows, "enclose(-1, 3)", x -> x.enclose(-1, 3));
        none(rows, "enclose(6, 3)", x -> x.enclose(6, 3));
        none(rows, "enclose(0, 0)", x -> x.enclose(0, 0));
        none(rows, "enclose(0, 481)", x -> x.enclose(0, 481));
        none(rows, "bound(-1, 0)", x -> x.bound(-1, 0));
        none(rows, "bound(2, 0)", x -> x.bound(2, 0));
        none(rows, "bound(0, -2)", x -> x.bound(0, -2));
        none(rows, "order(-1, 0)", x -> x.order(-1, 0));
        none(rows, "order(6, 0)", x -> x.order(6, 0));
        none(rows, "order(0, -1)", x -> x.order(0, -1));
        none(rows, "order(0, 6)", x -> x.order(0, 6));
        none(rows, "quotients(-1, 1)", x -> x.quotients(-1, 1));
        none(rows, "quotients(6, 1)", x -> x.quotients(6, 1));
        none(rows, "quotients(0, 0)", x -> x.quotients(0, 0));
        none(rows, "quotients(0, 41)", x -> x.quotients(0, 41));
        run(rows);
    }

    private void refusedWhenFull() {
        report.sentence("Terms: FULL: There are 60 VALUES");
        List<Row> rows = List.of(
            new Row("whole(1)", x -> x.whole(1), FULL, state(60, 10)),
            new Row("ratio(1, 7)", x -> x.ratio(1, 7), FULL, state(60, 10)),
            new Row("arctan(2)", x -> x.arctan(2), FULL, state(60, 10)),
            new Row("artanh(2)", x -> x.artanh(2), FULL, state(60, 10)),
            new Row("power(1, 1)", x -> x.power(1, 1), FULL, state(60, 10)),
            new Row("root(59)", x -> x.root(59), FULL, state(60, 10)),
            new Row("join(0, 0, 59)", x -> x.join(0, 0, 59), FULL, state(60, 10)),
            new Row("join(4, 0, 59)", x -> x.join(4, 0, 59), NONE, state(60, 10)),
            new Row("drop(61)", x -> x.drop(61), NONE, state(60, 10)));
        for (Row row : rows) {
            Counted x = livedIn();
            for (int i = 6; i < 60; i++) {
                report.due("whole(" + i + ")", x.whole(i), i);
            }
            report.due(row.name, row.call.applyAsLong(x), row.answer);
            report.due("after " + row.name, x.state(), row.after);
            report.due("VALUES after " + row.name, valuesOf(x), VALUES);
            report.due("the last after " + row.name, x.ends(59, 1, 4), "590 590");
        }
    }

    private void notSettled() {
        report.sentence("Terms: OPEN: It is not settled; it is OPEN");
        run(List.of(
            new Row("digits(3, 0)", x -> x.digits(3, 0), OPEN, NOT_SETTLED),
            new Row("digits(3, 400)", x -> x.digits(3, 400), OPEN, NOT_SETTLED),
            new Row("digits(5, 2)", x -> x.digits(5, 2), OPEN, NOT_SETTLED),
            new Row("order(0, 0)", x -> x.order(0, 0), OPEN, NOT_SETTLED),
            new Row("order(0, 3)", x -> x.order(0, 3), OPEN, NOT_SETTLED),
            new Row("order(5, 0)", x -> x.order(5, 0), OPEN, NOT_SETTLED),
            new Row("order(0, 5)", x -> x.order(0, 5), OPEN, NOT_SETTLED),
            new Row("quotients(3, 1)", x -> x.quotients(3, 1), OPEN, NOT_SETTLED),
            new Row("quotients(0, 2)", x -> x.quotients(0, 2), OPEN, NOT_SETTLED),
            new Row("quotients(2, 40)", x -> x.quotients(2, 40), OPEN, NOT_SETTLED),
            new Row("quotients(5, 1)", x -> x.quotients(5, 1), OPEN, NOT_SETTLED),
            new Row("enclose(5, 3)", x -> x.enclose(5, 3), OPEN, SAME),
            new Row("enclose(5, 480)", x -> x.enclose(5, 480), OPEN, SAME)));
    }

    private void notSettledFirst() {
        report.sentence("Promises 11, 15, 17: OPEN before anything was settled");
        Counted x = new Counted();
        x.whole(-1);
        x.root(0);
        String nothing = Counted.state(2, 0, "", "0 0", "");
        report.due("digits(1, 2)", x.digits(1, 2), OPEN);
        report.due("after digits", x.state(), nothing);
        report.due("enclose(1, 2)", x.enclose(1, 2), OPEN);
        report.due("after enclose", x.state(), nothing);
        report.due("order(1, 0)", x.order(1, 0), OPEN);
        report.due("after order", x.state(), nothing);
        report.due("quotients(1, 2)", x.quotients(1, 2), OPEN);
        report.due("after quotients", x.state(), nothing);
    }

    private void settled() {
        report.sentence("Promises 11, 14, 16, 17: what is settled changes no more than its own");
        run(List.of(
            new Row("digits(2, 0)", x -> x.digits(2, 0), 0,
                Counted.state(6, 10, "1", BOUNDS, QUOTIENTS)),
            new Row("digits(0, 5)", x -> x.digits(0, 5), 1,
                Counted.state(6, 15, "200000", BOUNDS, QUOTIENTS)),
            new Row("enclose(0, 3)", x -> x.enclose(0, 3), 1,
                Counted.state(6, 10, DIGITS, "2000 2000", QUOTIENTS)),
            new Row("order(2, 0)", x -> x.order(2, 0), 0, SAME),
            new Row("order(1, 2)", x -> x.order(1, 2), 1, SAME),
            new Row("quotients(0, 1)", x -> x.quotients(0, 1), 1,
                Counted.state(6, 12, DIGITS, BOUNDS, "2")),
            new Row("quotients(1, 5)", x -> x.quotients(1, 5), 1,
                Counted.state(6, 20, DIGITS, BOUNDS, "1 2 2 2 2"))));
    }

    private void made() {
        report.sentence("Promises 2 to 8: what makes a VALUE changes nothing else");
        run(List.of(
            new Row("whole(1)", x -> x.whole(1), 6, state(7, 10)),
            new Row("ratio(1, 7)", x -> x.ratio(1, 7), 6, state(7, 10)),
            new Row("arctan(2)", x -> x.arctan(2), 6, state(7, 10)),
            new Row("artanh(2)", x -> x.artanh(2), 6, state(7, 10)),
            new Row("power(1, 1)", x -> x.power(1, 1), 6, state(7, 10)),
            new Row("root(5)", x -> x.root(5), 6, state(7, 10)),
            new Row("join(3, 0, 5)", x -> x.join(3, 0, 5), 6, state(7, 10))));
    }

    private void dropped() {
        report.sentence("Promise 9: what is gone changes nothing that was asked");
        run(List.of(
            new Row("drop(6)", x -> x.drop(6), 0, SAME),
            new Row("drop(5)", x -> x.drop(5), 1, state(5, 10)),
            new Row("drop(1)", x -> x.drop(1), 5, state(1, 10)),
            new Row("drop(0)", x -> x.drop(0), 6, state(0, 10))));
    }

    private void readOnly() {
        report.sentence("Promises 10, 12, 13, 15, 18 to 20: reading changes nothing");
        run(List.of(
            new Row("values()", x -> x.values(), 6, SAME),
            new Row("digit(0)", x -> x.digit(0), 4, SAME),
            new Row("digit(4)", x -> x.digit(4), 0, SAME),
            new Row("length()", x -> x.length(), 4, SAME),
            new Row("bound(0, -1)", x -> x.bound(0, -1), -1, SAME),
            new Row("bound(1, 9)", x -> x.bound(1, 9), 0, SAME),
            new Row("quotient(2)", x -> x.quotient(2), 2, SAME),
            new Row("quotient(3)", x -> x.quotient(3), 0, SAME),
            new Row("quotient(-1)", x -> x.quotient(-1), 0, SAME),
            new Row("many()", x -> x.many(), 3, SAME),
            new Row("precision()", x -> x.precision(), 10, SAME)));
    }
}
