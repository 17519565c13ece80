/** live. */
public final class Promise07LiveTest {
    private static final String LIVE = "The loop at place i of the needle; -1 for none.";
    private static final String NEEDLE =
        "THE NEEDLE has the live ones in the order in which the next row takes them (place 0 first).";
    private static final String TURNED = "In round work the next row takes what a row made in the order in which it"
        + " was made; in flat work the other way round (the needles are turned).";

    public static void main(String[] args) {
        Sentences.runAll(Promise07LiveTest.class);
    }

    @Says(promise = 7, words = LIVE)
    static void beforeTheFirstPlaceThereIsNone(Due due) {
        Bench bench = Bench.flat(3);
        due.same("live(-1)", bench.live(-1), -1);
        due.same("live(-3)", bench.live(-3), -1);
        due.same("live of the least", bench.live(Integer.MIN_VALUE), -1);
    }

    @Says(promise = 7, words = LIVE)
    static void behindTheLastPlaceThereIsNone(Due due) {
        for (int loops : new int[] {1, 3, 40}) {
            for (boolean round : new boolean[] {false, true}) {
                Bench bench = Bench.of(loops, round);
                due.same("live of the last place", bench.live(loops - 1), round ? loops - 1 : 0);
                due.same("live behind it", bench.live(loops), -1);
                due.same("live far behind it", bench.live(loops + 40), -1);
                due.same("live of the greatest", bench.live(Integer.MAX_VALUE), -1);
            }
        }
    }

    @Says(promise = 7, words = LIVE)
    static void theNeedleGetsShorterAndLonger(Due due) {
        Bench bench = Bench.round(5);
        due.works(bench, "bind4,k", 1);
        due.same("live(0)", bench.live(0), 5);
        due.same("live(1)", bench.live(1), -1);
        due.works(bench, "k,yo39", 40);
        due.same("live(39)", bench.live(39), 45);
        due.same("live(40)", bench.live(40), -1);
        bench.unravel(1);
        due.same("live(0)", bench.live(0), 5);
        due.same("live(1)", bench.live(1), -1);
    }

    @Says(promise = 7, words = NEEDLE)
    static void theNextRowTakesThemInThisOrder(Due due) {
        for (boolean round : new boolean[] {false, true}) {
            Bench bench = Bench.of(4, round);
            for (int row = 1; row <= 4; row++) {
                int first = bench.live(0);
                int last = bench.live(3);
                due.works(bench, "k4", 4);
                due.same("parents of the first made", bench.parents(4 * row), String.valueOf(first));
                due.same("parents of the last made", bench.parents(4 * row + 3), String.valueOf(last));
            }
        }
    }

    @Says(promise = 7, words = NEEDLE)
    static void onlyLiveOnesAreOnIt(Due due) {
        Bench bench = Bench.round(3);
        due.works(bench, "k,bind,p", 2);
        due.same("needle", bench.needle(), "3 4");
        due.works(bench, "k9", -4000);
        due.same("needle behind a fault", bench.needle(), "3 4");
    }

    @Says(promise = 7, words = TURNED)
    static void roundWorkGoesOnInOrder(Due due) {
        Bench bench = Bench.round(3);
        due.same("needle of the cast on", bench.needle(), "0 1 2");
        due.works(bench, "cast1,kfb,k2tog", 4);
        due.same("needle of row 1", bench.needle(), "3 4 5 6");
        due.works(bench, "c2/2f", 4);
        due.same("needle of row 2", bench.needle(), "7 8 9 10");
        due.same("parents", bench.parents(7), "5");
    }

    @Says(promise = 7, words = TURNED)
    static void flatWorkIsTurnedAtEachRow(Due due) {
        Bench bench = Bench.flat(3);
        due.same("needle of the cast on", bench.needle(), "2 1 0");
        due.works(bench, "cast1,kfb,k2tog", 4);
        due.same("needle of row 1", bench.needle(), "6 5 4 3");
        due.works(bench, "c2/2f", 4);
        due.same("needle of row 2", bench.needle(), "10 9 8 7");
        due.same("parents", bench.parents(7), "4");
        due.works(bench, "k4", 4);
        due.same("needle of row 3", bench.needle(), "14 13 12 11");
    }
}
