/** row. */
public final class Promise10RowTest {
    private static final String ROW = "Of a row 0 how many stitches it has, 1 how many pairs of loops it crosses (a"
        + " times b of each cable), 2 loops it took, 3 loops it made, 4 loops bound.";
    private static final String REFUSES = "IllegalArgumentException: no such row or what.";

    public static void main(String[] args) {
        Sentences.runAll(Promise10RowTest.class);
    }

    @Says(promise = 10, words = ROW)
    static void eachNumberIsOfItsRowAlone(Due due) {
        Bench bench = Bench.flat(20);
        due.works(bench, "cast2,c2/3f,c5/1b,bind2,kfb,k2tog,k3tog,yo,sl", 19);
        due.works(bench, "k19", 19);
        due.works(bench, "(yo,bind)x17,bind2", 17);
        due.works(bench, "c4/3b,k,c1/1f,p3,c2/2f", 17);
        due.same("row 1", bench.numbers(1), "11 11 20 19 2");
        due.same("row 2", bench.numbers(2), "19 0 19 19 0");
        due.same("row 3", bench.numbers(3), "36 0 19 17 19");
        due.same("row 4", bench.numbers(4), "7 17 17 17 0");
    }

    @Says(promise = 10, words = ROW)
    static void oneStitchIsTheLeast(Due due) {
        Bench bench = Bench.round(10);
        due.works(bench, "c5/5b", 10);
        due.same("row 1", bench.numbers(1), "1 25 10 10 0");
        Bench small = Bench.round(1);
        due.works(small, "k", 1);
        due.same("row 1", small.numbers(1), "1 0 1 1 0");
    }

    @Says(promise = 10, words = ROW)
    static void eightyStitchesAreTheMost(Due due) {
        Bench bench = Bench.flat(40);
        due.works(bench, "cast40,bind40", 40);
        due.same("row 1", bench.numbers(1), "80 0 40 40 40");
        due.works(bench, "(bind,yo)x39,yo,bind", 40);
        due.same("row 2", bench.numbers(2), "80 0 40 40 40");
        due.works(bench, "(c5/5f)x4", 40);
        due.same("row 3", bench.numbers(3), "4 100 40 40 0");
        due.works(bench, "bind39,k", 1);
        due.same("row 4", bench.numbers(4), "40 0 40 1 39");
        due.works(bench, "k,yo39", 40);
        due.same("row 5", bench.numbers(5), "40 0 1 40 0");
    }

    @Says(promise = 10, words = ROW)
    static void everyCableCrossesAsManyPairs(Due due) {
        for (int a = 1; a <= 5; a++) {
            for (int b = 1; b <= 5; b++) {
                Bench bench = Bench.flat(2 * (a + b));
                due.works(bench, "c" + a + "/" + b + "f,c" + b + "/" + a + "b", 2 * (a + b));
                due.same("row(1, 1)", bench.row(1, 1), 2 * a * b);
            }
        }
    }

    @Says(promise = 10, words = REFUSES)
    static void noRowBelowOneOrBehindTheLast(Due due) {
        Bench bench = Bench.flat(2);
        bench.workAll("k2", 2);
        for (int row : new int[] {0, -1, 3, 31, Integer.MAX_VALUE, Integer.MIN_VALUE}) {
            for (int what : new int[] {0, 1, 2, 3, 4, 5, -1}) {
                due.refuses("row(" + row + ", " + what + ")", () -> bench.row(row, what));
            }
        }
        due.same("row(2, 0)", bench.row(2, 0), 2);
        bench.unravel(1);
        due.refuses("row(2, 0) taken back", () -> bench.row(2, 0));
        due.same("row(1, 0)", bench.row(1, 0), 2);
        Bench empty = new Bench();
        due.refuses("row(1, 0) of no row", () -> empty.row(1, 0));
    }

    @Says(promise = 10, words = REFUSES)
    static void noWhatBelowZeroOrAboveFour(Due due) {
        Bench bench = Bench.flat(2);
        bench.workAll("k2", 2);
        for (int what : new int[] {-1, 5, Integer.MAX_VALUE, Integer.MIN_VALUE}) {
            due.refuses("row(1, " + what + ")", () -> bench.row(1, what));
            due.refuses("row(2, " + what + ")", () -> bench.row(2, what));
        }
        due.same("row(1, 4)", bench.row(1, 4), 0);
    }

    @Says(promise = 10, words = REFUSES)
    static void theThirtiethRowIsTheLast(Due due) {
        Bench bench = Bench.round(2);
        bench.workAll("k2", 29);
        due.works(bench, "k2tog", 1);
        due.same("row 30", bench.numbers(30), "1 0 2 1 0");
        due.refuses("row(31, 0)", () -> bench.row(31, 0));
    }
}
