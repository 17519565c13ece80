/** total. */
public final class Promise14TotalTest {
    private static final String TOTAL = "0 loops made (cast on, too), 1 live, 2 taken by others than bind, 3 bound.";
    private static final String REFUSES = "IllegalArgumentException: no such what.";

    public static void main(String[] args) {
        Sentences.runAll(Promise14TotalTest.class);
    }

    @Says(promise = 14, words = TOTAL)
    static void theCastOnIsMade(Due due) {
        due.same("new object", new Bench().totals(), "1 1 0 0");
        due.same("forty loops", Bench.flat(40).totals(), "40 40 0 0");
    }

    @Says(promise = 14, words = TOTAL)
    static void allRowsAreCounted(Due due) {
        Bench bench = Bench.flat(5);
        due.works(bench, "cast2,bind2,k2tog,yo,k", 5);
        due.same("one row", bench.totals(), "10 5 3 2");
        due.works(bench, "bind,c1/2b,kfb", 5);
        due.same("two rows", bench.totals(), "15 5 7 3");
        due.works(bench, "k3tog,bind2", 1);
        due.same("three rows", bench.totals(), "16 1 10 5");
    }

    @Says(promise = 14, words = TOTAL)
    static void faultsAreNotCounted(Due due) {
        Bench bench = Bench.round(3);
        due.works(bench, "bind,k2", 2);
        due.works(bench, "bind,yo,bind,k", -4013);
        due.works(bench, "bind2", -5000);
        due.works(bench, "yo39,k2", -8007);
        due.same("totals", bench.totals(), "5 2 2 1");
    }

    @Says(promise = 14, words = TOTAL)
    static void rowsTakenBackAreNotCounted(Due due) {
        Bench bench = Bench.round(5);
        due.works(bench, "bind,k4", 4);
        due.works(bench, "bind2,k2tog", 1);
        due.same("two rows", bench.totals(), "10 1 6 3");
        bench.unravel(1);
        due.same("one row", bench.totals(), "9 4 4 1");
        bench.unravel(1);
        due.same("no row", bench.totals(), "5 5 0 0");
    }

    @Says(promise = 14, words = TOTAL)
    static void sixHundredAreTheMost(Due due) {
        Bench bench = Bench.round(40);
        bench.workAll("(bind,yo)x40", 14);
        due.same("all bound", bench.totals(), "600 40 0 560");
        bench.begin(40, false);
        bench.workAll("k40", 14);
        due.same("none bound", bench.totals(), "600 40 560 0");
    }

    @Says(promise = 14, words = REFUSES)
    static void belowZeroOrAboveThreeIsRefused(Due due) {
        Bench bench = Bench.flat(2);
        for (int what : new int[] {-1, 4, 5, Integer.MAX_VALUE, Integer.MIN_VALUE}) {
            due.refuses("total(" + what + ")", () -> bench.total(what));
        }
        due.same("totals", bench.totals(), "2 2 0 0");
    }
}
