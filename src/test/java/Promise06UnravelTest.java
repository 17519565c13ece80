/** unravel. */
public final class Promise06UnravelTest {
    private static final String TAKES = "Takes k rows back: how many are left.";
    private static final String REFUSES = "IllegalArgumentException: k is below 0 or above that.";

    public static void main(String[] args) {
        Sentences.runAll(Promise06UnravelTest.class);
    }

    @Says(promise = 6, words = TAKES)
    static void noneIsTheLeast(Due due) {
        Bench empty = Bench.flat(3);
        due.same("unravel(0) of no row", empty.unravel(0), 0);
        due.same("needle", empty.needle(), "2 1 0");
        Bench bench = threeRows(due);
        String before = bench.state();
        due.same("unravel(0)", bench.unravel(0), 3);
        due.same("state", bench.state(), before);
    }

    @Says(promise = 6, words = TAKES)
    static void allAreTheMost(Due due) {
        Bench bench = threeRows(due);
        due.same("unravel(3)", bench.unravel(3), 0);
        due.same("state", bench.state(), Bench.flat(3).state());
        bench.workAll("k3", 30);
        due.same("unravel(30)", bench.unravel(30), 0);
        due.same("needle", bench.needle(), "2 1 0");
        due.same("totals", bench.totals(), "3 3 0 0");
    }

    /** Whatever number is taken back: all is as it was before. */
    @Says(promise = 6, words = TAKES)
    static void allIsAsItWasBeforeTheRows(Due due) {
        String[] rows = {"k2tog,k", "cast1,bind,kfb", "c1/2b"};
        for (boolean round : new boolean[] {false, true}) {
            for (int k = 1; k <= 3; k++) {
                Bench bench = Bench.of(3, round);
                Bench fresh = Bench.of(3, round);
                for (int i = 0; i < 3; i++) {
                    due.same("sign of work", Integer.signum(bench.work(rows[i])), 1);
                    if (i < 3 - k) {
                        fresh.work(rows[i]);
                    }
                }
                due.same("unravel(" + k + ")", bench.unravel(k), 3 - k);
                due.same("state", bench.state(), fresh.state());
                due.works(bench, "rep(yo,p)to last 0", fresh.work("rep(yo,p)to last 0"));
                due.same("state behind one more row", bench.state(), fresh.state());
            }
        }
    }

    @Says(promise = 6, words = TAKES)
    static void theLoopsOfTheRowsAreGone(Due due) {
        Bench bench = threeRows(due);
        due.same("loop(9, 0)", bench.loop(9, 0), 3);
        bench.unravel(2);
        due.same("needle", bench.needle(), "4 3");
        due.same("loop(3, 1) is live again", bench.loop(3, 1), 0);
        due.same("loop(0, 1) stays dead", bench.loop(0, 1), 1);
        due.same("totals", bench.totals(), "5 2 3 0");
        due.refuses("loop(5, 0)", () -> bench.loop(5, 0));
        due.refuses("loop(9, 0)", () -> bench.loop(9, 0));
        due.refuses("chart(2, 0)", () -> bench.chart(2, 0));
        due.refuses("row(2, 0)", () -> bench.row(2, 0));
        due.refuses("shorten(2)", () -> bench.shorten(2));
        due.refuses("ladder(2)", () -> bench.ladder(2));
        due.refuses("unravel(2)", () -> bench.unravel(2));
    }

    @Says(promise = 6, words = TAKES)
    static void theTapeAndTheShortestTextStay(Due due) {
        Bench bench = threeRows(due);
        bench.shorten(3);
        bench.type("k");
        bench.unravel(2);
        due.same("out", bench.out(), "yo,(p)x2");
        due.works(bench, ",sl", 2);
        due.same("chart of the new row 2", bench.chart(2), "2 1");
        due.same("parents of loop 5", bench.parents(5), "4");
    }

    private static Bench threeRows(Due due) {
        Bench bench = Bench.flat(3);
        due.works(bench, "k2tog,k", 2);
        due.works(bench, "bind,kfb", 2);
        due.works(bench, "yo,p2", 3);
        return bench;
    }

    @Says(promise = 6, words = REFUSES)
    static void belowZeroIsRefused(Due due) {
        refused(due, -1);
        refused(due, -3);
        refused(due, Integer.MIN_VALUE);
    }

    @Says(promise = 6, words = REFUSES)
    static void moreThanThereAreIsRefused(Due due) {
        refused(due, 4);
        refused(due, 31);
        refused(due, Integer.MAX_VALUE);
        Bench bench = new Bench();
        due.refuses("unravel(1) of no row", () -> bench.unravel(1));
        due.same("needle", bench.needle(), "0");
    }

    private static void refused(Due due, int k) {
        Bench bench = threeRows(due);
        bench.shorten(3);
        bench.type("k,");
        String before = bench.state();
        due.refuses("unravel(" + k + ")", () -> bench.unravel(k));
        due.same("state behind it", bench.state(), before);
        due.works(bench, "p2", 3);
    }
}
