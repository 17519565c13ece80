/** What is said of an object's whole life: the section in front of the face. */
public final class LifetimeTest {
    private static final String CALLS =
        "An object is used for at most 512 calls after it has been made; what later calls answer is free.";

    private static final String BENCH =
        "A bench for hand-knitting: rows are typed as texts with brackets and repeats, flattened against the loops on "
        + "the needle, worked loop by loop, taken back; the fabric can be looked at, and a row be told in the fewest "
        + "words.";

    public static void main(String[] args) {
        Sentences.runAll(LifetimeTest.class);
    }

    @Says(promise = 0, words = CALLS)
    static void theFiveHundredTwelfthCallIsPromised(Due due) {
        Bench bench = Bench.flat(3);
        while (bench.callsLeft() > 5) {
            due.same("feed", bench.feed('k' << 8 | '3', 2), 2);
            due.same("work()", bench.work(), 3);
            due.same("unravel(1)", bench.unravel(1), 0);
        }
        due.same("feed", bench.feed('k' << 8 | '3', 2), 2);
        due.same("work()", bench.work(), 3);
        due.same("shorten(1)", bench.shorten(1), 2);
        while (bench.callsLeft() > 0) {
            due.same("out(1)", bench.out(1), 'k');
        }
    }

    @Says(promise = 0, words = CALLS)
    static void theLastCallMayBeTheDearest(Due due) {
        Bench bench = Bench.round(40);
        due.works(bench, "(bind,yo)x19,(yo,bind)x20,bind,yo", 40);
        while (bench.callsLeft() > 1) {
            due.same("shorten(1)", bench.shorten(1), 8);
        }
        due.same("out(0)", bench.out(0), '(');
    }

    @Says(promise = 0, words = CALLS)
    static void allCallsMayBeRefused(Due due) {
        Bench bench = Bench.round(2);
        while (bench.callsLeft() > 2) {
            due.refuses("loop(9, 9)", () -> bench.loop(9, 9));
        }
        due.same("live(1)", bench.live(1), 1);
        due.same("total(0)", bench.total(0), 2);
    }

    @Says(promise = 0, words = BENCH)
    static void rowsAreTypedWorkedLookedAtToldAndTakenBack(Due due) {
        Bench bench = Bench.flat(12);
        due.works(bench, "k2, (yo, k2tog) x3, rep (p, k) to last 2, k2", 12);
        due.works(bench, "k4, c2/2f, bind2, p2", 10);
        due.same("needle", bench.needle(), "33 32 31 30 29 28 27 26 25 24");
        due.same("chart(2)", bench.chart(2), "0 0 8 8 230 1 1 1 1");
        due.same("parents of the first of the cable", bench.parents(28), "17");
        due.same("ladders", bench.ladders(), "3 3 2 3 2 3 3 3 3 3");
        due.same("shorten(1)", bench.shorten(1), 8);
        due.same("out", bench.out(), "k,k,(yo,k2tog)x3,p,(k)x3");
        due.same("unravel(1)", bench.unravel(1), 1);
        due.same("needle", bench.needle(), "23 22 21 20 19 18 17 16 15 14 13 12");
    }
}
