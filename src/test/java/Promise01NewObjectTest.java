/** A new object. */
public final class Promise01NewObjectTest {
    private static final String NEW = "One loop cast on, flat.";

    public static void main(String[] args) {
        Sentences.runAll(Promise01NewObjectTest.class);
    }

    @Says(promise = 1, words = NEW)
    static void thereIsOneLoopAndNoMore(Due due) {
        Bench bench = new Bench();
        due.same("live(0)", bench.live(0), 0);
        due.same("live(1)", bench.live(1), -1);
        due.same("totals", bench.totals(), "1 1 0 0");
        due.same("loop(0, 0)", bench.loop(0, 0), 0);
        due.same("loop(0, 1)", bench.loop(0, 1), 0);
        due.same("loop(0, 2)", bench.loop(0, 2), 0);
        due.refuses("loop(1, 0)", () -> bench.loop(1, 0));
        due.same("ladder(0)", bench.ladder(0), 1);
    }

    @Says(promise = 1, words = NEW)
    static void theNeedlesAreTurned(Due due) {
        Bench bench = new Bench();
        due.works(bench, "kfb", 2);
        due.same("needle", bench.needle(), "2 1");
        due.works(bench, "k,p", 2);
        due.same("chart of the back row", bench.chart(2), "0 1");
    }

    @Says(promise = 1, words = NEW)
    static void thereIsNoRow(Due due) {
        Bench bench = new Bench();
        due.same("rows()", bench.rows(), 0);
        due.same("unravel(0)", bench.unravel(0), 0);
        due.refuses("unravel(1)", () -> bench.unravel(1));
        due.refuses("row(1, 0)", () -> bench.row(1, 0));
        due.refuses("chart(1, 0)", () -> bench.chart(1, 0));
        due.refuses("shorten(1)", () -> bench.shorten(1));
    }

    @Says(promise = 1, words = NEW)
    static void theTapeIsEmpty(Due due) {
        due.same("work()", new Bench().work(), -1000);
        due.same("the first feed", new Bench().feed('k', 1), 1);
    }

    @Says(promise = 1, words = NEW)
    static void objectsHaveNothingInCommon(Due due) {
        Bench first = Bench.round(5);
        due.works(first, "k5", 5);
        first.shorten(1);
        first.type("p5");
        Bench second = new Bench();
        due.same("rows() of the second", second.rows(), 0);
        due.same("needle of the second", second.needle(), "0");
        due.same("out(0) of the second", second.out(0), -1);
        due.same("feed of the second", second.feed('k', 1), 1);
        due.same("work of the second", second.work(), 1);
        due.same("work of the first", first.work(), 5);
        due.same("needle of the first", first.needle(), "10 11 12 13 14");
        due.same("shortest text of the first", first.out(), "(k)x5");
    }
}
