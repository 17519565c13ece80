/** What is said of an object's whole life. */
public final class LifetimeTest {
    private static final String CALLS =
        "An object is used for at most 512 calls after it has been made; what later calls answer is free.";

    public static void main(String[] args) {
        Sentences.runAll(LifetimeTest.class);
    }

    @Says(promise = 0, words = CALLS)
    static void theFiveHundredTwelfthCallIsPromised(Due due) {
        Bench bench = Bench.flat(3);
        while (bench.callsLeft() > 5) {
            due.same("feed", bench.feed('k' << 8 | '3', 2), 2);
            due.same("work()", bench.work(), 3);
            due.same("unravel(1)", bench.unravel(1), 0);
        }
        due.same("feed", bench.feed('k' << 8 | '3', 2), 2);
        due.same("work()", bench.work(), 3);
        due.same("shorten(1)", bench.shorten(1), 2);
        while (bench.callsLeft() > 0) {
            due.same("out(1)", bench.out(1), 'k');
        }
    }

    @Says(promise = 0, words = CALLS)
    static void theLastCallMayBeTheDearest(Due due) {
        Bench bench = Bench.round(40);
        due.works(bench, "(bind,yo)x19,(yo,bind)x20,bind,yo", 40);
        while (bench.callsLeft() > 1) {
            due.same("shorten(1)", bench.shorten(1), 8);
        }
        due.same("out(0)", bench.out(0), '(');
    }

    @Says(promise = 0, words = CALLS)
    static void allCallsMayBeRefused(Due due) {
        Bench bench = Bench.round(2);
        while (bench.callsLeft() > 2) {
            due.refuses("loop(9, 9)", () -> bench.loop(9, 9));
        }
        due.same("live(1)", bench.live(1), 1);
        due.same("total(0)", bench.total(0), 2);
    }
}
