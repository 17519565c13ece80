/** chart. */
public final class Promise09ChartTest {
    private static final String STITCH =
        "Stitch c (0 first) of a row of the chart: 0 .. 11; of cables 100 a + 10 b more.";
    private static final String REFUSES_ROW = "IllegalArgumentException: no such row (1 and more);";
    private static final String REFUSES_STITCH = "IndexOutOfBoundsException: no such stitch.";
    private static final String BACK = "Flat rows with even numbers are BACK rows.";
    private static final String CHART = "THE CHART of a row has its stitches (cast, too) as seen from the front, from"
        + " the right: a back row from its last one on, k as p and p as k, all others as they are.";

    private static final String ALL = "cast1,k,p,sl,k2tog,ssk,k3tog,kfb,yo,bind,c2/3f,c5/1b";

    public static void main(String[] args) {
        Sentences.runAll(Promise09ChartTest.class);
    }

    @Says(promise = 9, words = STITCH)
    static void everyStitchHasItsNumber(Due due) {
        Bench bench = Bench.round(23);
        due.works(bench, ALL, 21);
        due.same("chart", bench.chart(1), "9 0 1 2 3 4 5 6 7 8 240 521");
    }

    @Says(promise = 9, words = STITCH)
    static void everyCableHasItsNumber(Due due) {
        for (int a = 1; a <= 5; a++) {
            for (int b = 1; b <= 5; b++) {
                Bench bench = Bench.round(2 * (a + b));
                due.works(bench, "c" + a + "/" + b + "f,c" + a + "/" + b + "b", 2 * (a + b));
                due.same("chart(1, 0)", bench.chart(1, 0), 100 * a + 10 * b + 10);
                due.same("chart(1, 1)", bench.chart(1, 1), 100 * a + 10 * b + 11);
            }
        }
    }

    @Says(promise = 9, words = STITCH)
    static void eightyStitchesAreTheMost(Due due) {
        Bench bench = Bench.round(40);
        due.works(bench, "(yo,bind)x40", 40);
        due.same("row(1, 0)", bench.row(1, 0), 80);
        due.same("chart(1, 0)", bench.chart(1, 0), 7);
        due.same("chart(1, 79)", bench.chart(1, 79), 8);
        due.raises("chart(1, 80)", IndexOutOfBoundsException.class, () -> bench.chart(1, 80));
    }

    @Says(promise = 9, words = REFUSES_ROW)
    static void theCastOnAndRowsBelowAreNone(Due due) {
        refusedRow(due, 0);
        refusedRow(due, -1);
        refusedRow(due, Integer.MIN_VALUE);
    }

    @Says(promise = 9, words = REFUSES_ROW)
    static void rowsBehindTheLastAreNone(Due due) {
        refusedRow(due, 3);
        refusedRow(due, 31);
        refusedRow(due, Integer.MAX_VALUE);
        Bench bench = new Bench();
        due.refuses("chart(1, 0) of no row", () -> bench.chart(1, 0));
        Bench full = Bench.flat(1);
        full.workAll("k", 30);
        due.same("chart(30, 0)", full.chart(30, 0), 1);
        due.refuses("chart(31, 0)", () -> full.chart(31, 0));
    }

    /** A wrong row is told before a wrong stitch. */
    private static void refusedRow(Due due, int row) {
        Bench bench = Bench.flat(2);
        bench.workAll("k2", 2);
        for (int c : new int[] {0, 1, 2, -1, Integer.MAX_VALUE, Integer.MIN_VALUE}) {
            due.refuses("chart(" + row + ", " + c + ")", () -> bench.chart(row, c));
        }
    }

    @Says(promise = 9, words = REFUSES_ROW)
    static void rowsTakenBackAreNone(Due due) {
        Bench bench = Bench.flat(2);
        bench.workAll("k2", 2);
        bench.unravel(1);
        due.same("chart(1, 1)", bench.chart(1, 1), 0);
        due.refuses("chart(2, 0)", () -> bench.chart(2, 0));
    }

    @Says(promise = 9, words = REFUSES_STITCH)
    static void noStitchBelowZero(Due due) {
        Bench bench = Bench.flat(2);
        bench.workAll("k2", 2);
        for (int row = 1; row <= 2; row++) {
            for (int c : new int[] {-1, -2, Integer.MIN_VALUE}) {
                int number = row;
                due.raises("chart(" + row + ", " + c + ")", IndexOutOfBoundsException.class,
                    () -> bench.chart(number, c));
            }
        }
    }

    @Says(promise = 9, words = REFUSES_STITCH)
    static void noStitchBehindTheLast(Due due) {
        Bench bench = Bench.flat(3);
        due.works(bench, "k2tog,k", 2);
        due.works(bench, "cast1,k2", 3);
        due.works(bench, "c1/2f", 3);
        int[] counts = {2, 3, 1};
        for (int row = 1; row <= 3; row++) {
            for (int c : new int[] {counts[row - 1], counts[row - 1] + 1, 80, Integer.MAX_VALUE}) {
                int number = row;
                due.raises("chart(" + row + ", " + c + ")", IndexOutOfBoundsException.class,
                    () -> bench.chart(number, c));
            }
            due.isTrue("chart of the last stitch", bench.chart(row, counts[row - 1] - 1) >= 0);
        }
    }

    @Says(promise = 9, words = BACK)
    static void evenRowsOfFlatWorkAreBackRows(Due due) {
        Bench bench = Bench.flat(3);
        bench.workAll("sl,k,p", 30);
        for (int row = 1; row <= 30; row++) {
            due.same("chart of row " + row, bench.chart(row), row % 2 == 0 ? "0 1 2" : "2 0 1");
        }
    }

    @Says(promise = 9, words = BACK)
    static void roundWorkHasNone(Due due) {
        Bench bench = Bench.round(2);
        bench.workAll("k,p", 30);
        for (int row = 1; row <= 30; row++) {
            due.same("chart of row " + row, bench.chart(row), "0 1");
        }
    }

    @Says(promise = 9, words = CHART)
    static void aFrontRowIsAsWorked(Due due) {
        Bench bench = Bench.flat(23);
        due.works(bench, ALL, 21);
        due.same("chart", bench.chart(1), "9 0 1 2 3 4 5 6 7 8 240 521");
    }

    @Says(promise = 9, words = CHART)
    static void aBackRowIsTurnedAndOnlyKAndPChange(Due due) {
        Bench bench = Bench.flat(23);
        due.works(bench, "k23", 23);
        due.works(bench, ALL, 21);
        due.same("chart", bench.chart(2), "521 240 8 7 6 5 4 3 2 0 1 9");
    }

    @Says(promise = 9, words = CHART)
    static void aBackRowOfOneStitchIsThatStitch(Due due) {
        Bench bench = Bench.flat(2);
        due.works(bench, "k2", 2);
        due.works(bench, "c1/1b", 2);
        due.same("chart", bench.chart(2), "121");
    }

    @Says(promise = 9, words = CHART)
    static void everyCastIsAStitch(Due due) {
        Bench bench = Bench.flat(1);
        due.works(bench, "cast3,k", 4);
        due.same("front row", bench.chart(1), "9 9 9 0");
        due.works(bench, "cast2,p4", 6);
        due.same("back row", bench.chart(2), "0 0 0 0 9 9");
    }
}
