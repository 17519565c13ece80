/** rows. */
public final class Promise05RowsTest {
    private static final String ROWS = "How many rows there are.";
    private static final String NUMBERS =
        "ROWS 1, 2, .. are those that were worked and not taken back; the cast on is row 0.";

    public static void main(String[] args) {
        Sentences.runAll(Promise05RowsTest.class);
    }

    @Says(promise = 5, words = ROWS)
    static void atFirstThereIsNone(Due due) {
        due.same("rows() of a new object", new Bench().rows(), 0);
        due.same("rows() of forty loops", Bench.round(40).rows(), 0);
    }

    @Says(promise = 5, words = ROWS)
    static void thirtyAreTheMost(Due due) {
        Bench bench = Bench.flat(2);
        for (int row = 1; row <= 30; row++) {
            due.works(bench, "k2", 2);
            due.same("rows()", bench.rows(), row);
        }
        due.works(bench, "k2", -9002);
        due.same("rows() behind one too many", bench.rows(), 30);
    }

    @Says(promise = 5, words = NUMBERS)
    static void aFaultIsNoRow(Due due) {
        Bench bench = Bench.round(3);
        for (String text : new String[] {"k3,", "(((((", "rep(yo)to last 0", "k4", "bind3", "yo", "yo38,k3", ""}) {
            due.same("sign of work of '" + text + "'", Integer.signum(bench.work(text)), -1);
            due.same("rows()", bench.rows(), 0);
        }
    }

    @Says(promise = 5, words = NUMBERS)
    static void rowsTakenBackAreNone(Due due) {
        Bench bench = Bench.flat(2);
        bench.workAll("k2", 5);
        bench.unravel(0);
        due.same("rows() behind unravel(0)", bench.rows(), 5);
        bench.unravel(3);
        due.same("rows() behind unravel(3)", bench.rows(), 2);
        due.works(bench, "p2", 2);
        due.same("rows() behind one more", bench.rows(), 3);
        bench.unravel(3);
        due.same("rows() behind unravel of all", bench.rows(), 0);
    }

    @Says(promise = 5, words = NUMBERS)
    static void aNewRowTakesTheNumberOfOneTakenBack(Due due) {
        Bench bench = Bench.round(2);
        due.works(bench, "k2", 2);
        due.works(bench, "p2", 2);
        bench.unravel(1);
        due.works(bench, "sl2", 2);
        due.same("chart of row 1", bench.chart(1), "0 0");
        due.same("chart of row 2", bench.chart(2), "2 2");
        due.same("loop(4, 0)", bench.loop(4, 0), 2);
        due.refuses("row(3, 0)", () -> bench.row(3, 0));
    }

    @Says(promise = 5, words = NUMBERS)
    static void theCastOnIsRowZero(Due due) {
        Bench bench = Bench.round(2);
        due.same("loop(1, 0)", bench.loop(1, 0), 0);
        due.works(bench, "k2", 2);
        due.same("loop(1, 0)", bench.loop(1, 0), 0);
        due.same("loop(2, 0)", bench.loop(2, 0), 1);
        due.refuses("row(0, 0)", () -> bench.row(0, 0));
        due.refuses("chart(0, 0)", () -> bench.chart(0, 0));
        due.refuses("shorten(0)", () -> bench.shorten(0));
    }
}
