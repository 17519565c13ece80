/** loop. */
public final class Promise08LoopTest {
    private static final String LOOP = "Of a loop what 0 the row in which it was born, 1 in which it died, 2 how many"
        + " parents it has, 3 + j its parent j.";
    private static final String REFUSES = "IllegalArgumentException: no such loop or what.";
    private static final String NUMBERS = "LOOPS have numbers 0, 1, .. in the order in which they are made.";
    private static final String BORN =
        "A loop is BORN in a row, and DIED in the row that took it (0 while it is live).";

    public static void main(String[] args) {
        Sentences.runAll(Promise08LoopTest.class);
    }

    @Says(promise = 8, words = LOOP)
    static void parentsAreCountedFromZero(Due due) {
        Bench bench = Bench.round(6);
        due.works(bench, "k3tog,ssk,k", 3);
        due.same("loop(6, 2)", bench.loop(6, 2), 3);
        due.same("loop(6, 3)", bench.loop(6, 3), 0);
        due.same("loop(6, 4)", bench.loop(6, 4), 1);
        due.same("loop(6, 5)", bench.loop(6, 5), 2);
        due.same("loop(7, 2)", bench.loop(7, 2), 2);
        due.same("loop(7, 3)", bench.loop(7, 3), 3);
        due.same("loop(7, 4)", bench.loop(7, 4), 4);
        due.same("loop(8, 2)", bench.loop(8, 2), 1);
        due.same("loop(8, 3)", bench.loop(8, 3), 5);
    }

    /** Parents keep their order, however the needles were turned since. */
    @Says(promise = 8, words = LOOP)
    static void deadLoopsKeepTheirParents(Due due) {
        Bench bench = Bench.flat(4);
        due.works(bench, "k3tog,kfb", 3);
        due.works(bench, "k2tog,k", 2);
        due.works(bench, "bind,k", 1);
        due.same("parents of 4", bench.parents(4), "3 2 1");
        due.same("parents of 5", bench.parents(5), "0");
        due.same("parents of 7", bench.parents(7), "6 5");
        due.same("parents of 8", bench.parents(8), "4");
        due.same("parents of 9", bench.parents(9), "7");
    }

    @Says(promise = 8, words = REFUSES)
    static void noLoopBelowZeroOrBehindTheLast(Due due) {
        Bench bench = Bench.round(3);
        due.works(bench, "k2tog,k", 2);
        String before = bench.state();
        for (int loop : new int[] {-1, 5, 600, Integer.MAX_VALUE, Integer.MIN_VALUE}) {
            for (int what : new int[] {0, 1, 2, 3, -1}) {
                due.refuses("loop(" + loop + ", " + what + ")", () -> bench.loop(loop, what));
            }
        }
        due.same("loop(4, 0)", bench.loop(4, 0), 1);
        due.same("state", bench.state(), before);
    }

    @Says(promise = 8, words = REFUSES)
    static void noLoopOfARowThatFailedOrWasTakenBack(Due due) {
        Bench bench = Bench.round(2);
        due.works(bench, "k2,yo39", -8007);
        due.refuses("loop(2, 0)", () -> bench.loop(2, 0));
        due.works(bench, "kfb,k", 3);
        due.same("loop(4, 0)", bench.loop(4, 0), 1);
        bench.unravel(1);
        due.refuses("loop(2, 0)", () -> bench.loop(2, 0));
        due.refuses("loop(4, 3)", () -> bench.loop(4, 3));
        due.same("loop(1, 0)", bench.loop(1, 0), 0);
    }

    @Says(promise = 8, words = REFUSES)
    static void noWhatBelowZero(Due due) {
        Bench bench = Bench.round(3);
        due.works(bench, "k3tog", 1);
        for (int what : new int[] {-1, -3, Integer.MIN_VALUE}) {
            due.refuses("loop(0, " + what + ")", () -> bench.loop(0, what));
            due.refuses("loop(3, " + what + ")", () -> bench.loop(3, what));
        }
    }

    @Says(promise = 8, words = REFUSES)
    static void noWhatBehindTheLastParent(Due due) {
        Bench bench = Bench.round(8);
        due.works(bench, "yo,k,k2tog,k3tog,kfb,bind", 6);
        int[] parents = {0, 1, 2, 3, 1, 1};
        for (int i = 0; i < parents.length; i++) {
            int loop = 8 + i;
            int beyond = 3 + parents[i];
            due.same("loop(" + loop + ", 2)", bench.loop(loop, 2), parents[i]);
            due.refuses("loop(" + loop + ", " + beyond + ")", () -> bench.loop(loop, beyond));
            due.refuses("loop of a what far beyond", () -> bench.loop(loop, Integer.MAX_VALUE));
        }
        due.refuses("loop(0, 3)", () -> bench.loop(0, 3));
    }

    @Says(promise = 8, words = NUMBERS)
    static void theFirstIsZero(Due due) {
        Bench bench = Bench.flat(1);
        due.same("loop(0, 0)", bench.loop(0, 0), 0);
        due.same("live(0)", bench.live(0), 0);
    }

    @Says(promise = 8, words = NUMBERS)
    static void theLastThatCanBeIsFiveHundredNinetyNine(Due due) {
        Bench bench = Bench.flat(40);
        bench.workAll("k40", 14);
        due.same("live(0)", bench.live(0), 599);
        due.same("loop(599, 0)", bench.loop(599, 0), 14);
        due.same("loop(599, 1)", bench.loop(599, 1), 0);
        due.same("parents of 599", bench.parents(599), "520");
        due.same("loop(559, 1)", bench.loop(559, 1), 14);
        due.refuses("loop(600, 0)", () -> bench.loop(600, 0));
    }

    @Says(promise = 8, words = NUMBERS)
    static void numbersOfRowsTakenBackAreGivenAnew(Due due) {
        Bench bench = Bench.round(2);
        due.works(bench, "k2tog", 1);
        bench.unravel(1);
        due.works(bench, "yo,kfb,p", 4);
        due.same("needle", bench.needle(), "2 3 4 5");
        due.same("parents of 2", bench.parents(2), "");
        due.same("parents of 3", bench.parents(3), "0");
        due.same("parents of 5", bench.parents(5), "1");
    }

    @Says(promise = 8, words = BORN)
    static void liveOnesHaveNotDied(Due due) {
        Bench bench = Bench.flat(2);
        due.same("loop(0, 1)", bench.loop(0, 1), 0);
        due.works(bench, "k,p", 2);
        due.works(bench, "bind,yo,k", 2);
        int[] born = {0, 0, 1, 1, 2, 2};
        int[] died = {1, 1, 2, 2, 0, 0};
        for (int loop = 0; loop < born.length; loop++) {
            due.same("loop(" + loop + ", 0)", bench.loop(loop, 0), born[loop]);
            due.same("loop(" + loop + ", 1)", bench.loop(loop, 1), died[loop]);
        }
        bench.unravel(1);
        due.same("loop(2, 1) behind unravel", bench.loop(2, 1), 0);
        due.same("loop(0, 1) behind unravel", bench.loop(0, 1), 1);
    }

    @Says(promise = 8, words = BORN)
    static void boundOnesDiedToo(Due due) {
        Bench bench = Bench.round(3);
        due.works(bench, "bind2,k", 1);
        due.same("loop(0, 1)", bench.loop(0, 1), 1);
        due.same("loop(1, 1)", bench.loop(1, 1), 1);
        due.same("loop(2, 1)", bench.loop(2, 1), 1);
        due.same("loop(3, 1)", bench.loop(3, 1), 0);
    }

    @Says(promise = 8, words = BORN)
    static void theThirtiethRowIsTheLast(Due due) {
        Bench bench = Bench.round(1);
        bench.workAll("k", 30);
        for (int loop = 0; loop <= 30; loop++) {
            due.same("loop(" + loop + ", 0)", bench.loop(loop, 0), loop);
            due.same("loop(" + loop + ", 1)", bench.loop(loop, 1), loop == 30 ? 0 : loop + 1);
        }
    }
}
