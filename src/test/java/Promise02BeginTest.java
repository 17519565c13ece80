/** begin. */
public final class Promise02BeginTest {
    private static final String CASTS_ON = "Casts on so many loops (1 .. 40),";
    private static final String FORGETS = "all else is forgotten (the tape stays).";
    private static final String REFUSES = "IllegalArgumentException: it is not so.";

    public static void main(String[] args) {
        Sentences.runAll(Promise02BeginTest.class);
    }

    @Says(promise = 2, words = CASTS_ON)
    static void oneLoopIsTheLeast(Due due) {
        for (boolean round : new boolean[] {false, true}) {
            Bench bench = Bench.of(1, round);
            due.same("needle", bench.needle(), "0");
            due.same("totals", bench.totals(), "1 1 0 0");
            due.works(bench, "k", 1);
        }
    }

    @Says(promise = 2, words = CASTS_ON)
    static void fortyLoopsAreTheMost(Due due) {
        for (boolean round : new boolean[] {false, true}) {
            Bench bench = Bench.of(40, round);
            due.same("first loop", bench.live(0), round ? 0 : 39);
            due.same("last loop", bench.live(39), round ? 39 : 0);
            due.same("behind it", bench.live(40), -1);
            due.same("totals", bench.totals(), "40 40 0 0");
            due.works(bench, "k40", 40);
        }
    }

    @Says(promise = 2, words = CASTS_ON)
    static void everyNumberBetweenThemIsSo(Due due) {
        Bench bench = new Bench();
        for (int loops = 1; loops <= 40; loops++) {
            bench.begin(loops, true);
            due.same("total(1)", bench.total(1), loops);
            due.same("live of the last place", bench.live(loops - 1), loops - 1);
            due.same("live behind it", bench.live(loops), -1);
            due.same("loop(last, 1)", bench.loop(loops - 1, 1), 0);
        }
    }

    @Says(promise = 2, words = FORGETS)
    static void rowsAndLoopsAreForgotten(Due due) {
        Bench bench = Bench.round(4);
        due.works(bench, "k,bind,p2", 3);
        due.works(bench, "k3", 3);
        bench.begin(4, true);
        due.same("state", bench.state(), Bench.round(4).state());
        due.refuses("row(1, 0)", () -> bench.row(1, 0));
        due.refuses("chart(1, 0)", () -> bench.chart(1, 0));
        due.refuses("shorten(1)", () -> bench.shorten(1));
        due.refuses("loop(4, 0)", () -> bench.loop(4, 0));
        due.refuses("unravel(1)", () -> bench.unravel(1));
        due.works(bench, "p4", 4);
        due.same("rows()", bench.rows(), 1);
        due.same("needle", bench.needle(), "4 5 6 7");
        due.same("chart", bench.chart(1), "1 1 1 1");
    }

    @Says(promise = 2, words = FORGETS)
    static void theShortestTextIsForgotten(Due due) {
        Bench bench = Bench.round(2);
        due.works(bench, "k,p", 2);
        bench.shorten(1);
        bench.begin(2, true);
        due.same("out(0)", bench.out(0), -1);
        due.works(bench, "p2", 2);
        due.same("out(0) behind the next row", bench.out(0), -1);
        bench.shorten(1);
        due.same("the next text", bench.out(), "(p)x2");
    }

    @Says(promise = 2, words = FORGETS)
    static void roundOrFlatIsToldAnew(Due due) {
        Bench bench = Bench.round(3);
        due.works(bench, "k3", 3);
        bench.begin(3, false);
        due.same("needle, flat", bench.needle(), "2 1 0");
        due.works(bench, "k3", 3);
        due.works(bench, "k3", 3);
        due.same("chart of a back row", bench.chart(2), "1 1 1");
        bench.begin(3, true);
        due.same("needle, round", bench.needle(), "0 1 2");
        due.works(bench, "k3", 3);
        due.works(bench, "k3", 3);
        due.same("chart of a round row", bench.chart(2), "0 0 0");
    }

    @Says(promise = 2, words = FORGETS)
    static void thirtyRowsAreForgotten(Due due) {
        Bench bench = Bench.flat(2);
        bench.workAll("k2", 30);
        due.works(bench, "k2", -9002);
        bench.begin(2, false);
        bench.workAll("k2", 30);
        due.works(bench, "k2", -9002);
    }

    @Says(promise = 2, words = FORGETS)
    static void sixHundredLoopsAreForgotten(Due due) {
        Bench bench = Bench.flat(40);
        bench.workAll("k40", 14);
        due.works(bench, "k40", -6000);
        bench.begin(40, false);
        due.works(bench, "k40", 40);
        due.same("total(0)", bench.total(0), 80);
    }

    @Says(promise = 2, words = FORGETS)
    static void aBegunTextStays(Due due) {
        Bench bench = Bench.round(2);
        bench.type("k,");
        bench.begin(3, false);
        due.same("feed", bench.feed('p', 1), 3);
        due.same("feed", bench.feed('2', 1), 4);
        due.same("work()", bench.work(), 3);
        due.same("chart", bench.chart(1), "0 1 1");
    }

    @Says(promise = 2, words = FORGETS)
    static void aFullTapeStaysFull(Due due) {
        Bench bench = Bench.round(2);
        bench.type("k2" + " ".repeat(198));
        bench.begin(2, true);
        due.raises("feed", IllegalStateException.class, () -> bench.feed(' ', 1));
        due.same("work()", bench.work(), 2);
    }

    @Says(promise = 2, words = FORGETS)
    static void anEmptyTapeStaysEmpty(Due due) {
        Bench bench = Bench.round(1);
        due.works(bench, "k", 1);
        bench.begin(1, true);
        due.same("work()", bench.work(), -1000);
        due.same("feed", bench.feed('k', 1), 1);
    }

    @Says(promise = 2, words = REFUSES)
    static void noLoopIsTooFew(Due due) {
        refused(due, 0);
        refused(due, -1);
        refused(due, Integer.MIN_VALUE);
    }

    @Says(promise = 2, words = REFUSES)
    static void fortyOneLoopsAreTooMany(Due due) {
        refused(due, 41);
        refused(due, 256 + 1);
        refused(due, Integer.MAX_VALUE);
    }

    /** A refused call leaves all as it was, round or flat, the tape, too. */
    private static void refused(Due due, int loops) {
        Bench bench = Bench.round(2);
        due.works(bench, "kfb,p", 3);
        bench.shorten(1);
        bench.type("k2,");
        String before = bench.state();
        due.refuses("begin(" + loops + ", false)", () -> bench.begin(loops, false));
        due.refuses("begin(" + loops + ", true)", () -> bench.begin(loops, true));
        due.same("state behind it", bench.state(), before);
        due.works(bench, "k", 3);
        due.same("needle behind a row", bench.needle(), "5 6 7");
        due.works(new Bench(), "k", 1);
    }
}
