/** ladder. */
public final class Promise13LadderTest {
    private static final String LADDER = "How many loops there are from the loop at place i of the needle on, going to"
        + " first parents up to one without.";
    private static final String REFUSES = "IllegalArgumentException: there is none.";

    public static void main(String[] args) {
        Sentences.runAll(Promise13LadderTest.class);
    }

    @Says(promise = 13, words = LADDER)
    static void aLoopWithoutParentsIsOne(Due due) {
        due.same("cast on", Bench.flat(3).ladders(), "1 1 1");
        Bench bench = Bench.round(1);
        due.works(bench, "cast1,k,yo", 3);
        due.same("cast, k, yo", bench.ladders(), "1 2 1");
    }

    @Says(promise = 13, words = LADDER)
    static void thirtyOneAreTheMost(Due due) {
        for (boolean round : new boolean[] {false, true}) {
            Bench bench = Bench.of(1, round);
            for (int row = 1; row <= 30; row++) {
                due.works(bench, "k", 1);
                due.same("ladder(0)", bench.ladder(0), row + 1);
            }
        }
    }

    @Says(promise = 13, words = LADDER)
    static void itGoesToFirstParents(Due due) {
        Bench round = Bench.round(3);
        due.works(round, "yo,k,k2tog", 3);
        due.same("row 1", round.ladders(), "1 2 2");
        // Loops 6 cast, 7 of (3 yo, 4), 8 of 5 of (1, 2).
        due.works(round, "cast1,k2tog,k", 3);
        due.same("row 2", round.ladders(), "1 2 3");
        Bench flat = Bench.flat(3);
        due.works(flat, "yo,k,k2tog", 3);
        due.same("row 1, flat", flat.ladders(), "2 2 1");
        // Loops 6 of 5, 7 of (4, 3 yo), as the needle is turned.
        due.works(flat, "k,k2tog", 2);
        due.same("row 2, flat", flat.ladders(), "3 3");
        Bench last = Bench.flat(2);
        due.works(last, "k2,yo", 3);
        due.works(last, "k3tog", 1);
        due.same("a yo that is first", last.ladders(), "2");
    }

    @Says(promise = 13, words = LADDER)
    static void cablesAndKfbGoToTheOneTheyHave(Due due) {
        Bench bench = Bench.round(3);
        due.works(bench, "yo,k2tog,k", 3);
        due.works(bench, "c1/2f", 3);
        due.same("cable", bench.ladders(), "3 3 2");
        due.works(bench, "kfb,k,kfb", 5);
        due.same("kfb", bench.ladders(), "4 4 4 3 3");
    }

    @Says(promise = 13, words = LADDER)
    static void rowsTakenBackAreNotInIt(Due due) {
        Bench bench = Bench.round(2);
        bench.workAll("k2", 5);
        due.same("five rows", bench.ladders(), "6 6");
        bench.unravel(3);
        due.same("two rows", bench.ladders(), "3 3");
        due.works(bench, "yo,k2", 3);
        due.same("three rows", bench.ladders(), "1 4 4");
    }

    @Says(promise = 13, words = REFUSES)
    static void beforeTheFirstPlaceThereIsNone(Due due) {
        Bench bench = Bench.flat(2);
        for (int i : new int[] {-1, -2, Integer.MIN_VALUE}) {
            due.refuses("ladder(" + i + ")", () -> bench.ladder(i));
        }
    }

    @Says(promise = 13, words = REFUSES)
    static void behindTheLastPlaceThereIsNone(Due due) {
        for (int loops : new int[] {1, 2, 40}) {
            Bench bench = Bench.round(loops);
            due.same("ladder of the last place", bench.ladder(loops - 1), 1);
            for (int i : new int[] {loops, loops + 1, 600, Integer.MAX_VALUE}) {
                due.refuses("ladder(" + i + ")", () -> bench.ladder(i));
            }
        }
        Bench bench = Bench.flat(3);
        due.works(bench, "bind2,k", 1);
        due.same("ladder(0)", bench.ladder(0), 2);
        due.refuses("ladder(1)", () -> bench.ladder(1));
    }
}
