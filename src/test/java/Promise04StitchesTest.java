/** work: the stitches, with the loops they take and make, and the made loops' parents. */
public final class Promise04StitchesTest {
    private static final String STITCHES = "STITCHES, with the loops they take and make: 0 k and 1 p (1, 1),"
        + " 2 sl (1, 1), 3 k2tog and 4 ssk (2, 1), 5 k3tog (3, 1), 6 kfb (1, 2), 7 yo (0, 1), 8 bind (1, 0),"
        + " 9 cast (0, 1),";
    private static final String CABLE = "10 a CABLE in front, 11 behind: it takes a + b loops and makes as many:"
        + " first of the b last ones of these, then of the a first ones, one of each.";
    private static final String PARENTS = "A made loop's PARENTS are the loops that its stitch took"
        + " (kfb: both have the one; a cable's have one each; yo, cast and the cast on have none).";

    private static final String[] NAMES = {"k", "p", "sl", "k2tog", "ssk", "k3tog", "kfb", "yo", "bind", "cast1"};
    private static final int[] TAKES = {1, 1, 1, 2, 2, 3, 1, 0, 1, 0};
    private static final int[] MAKES = {1, 1, 1, 1, 1, 1, 2, 1, 0, 1};

    public static void main(String[] args) {
        Sentences.runAll(Promise04StitchesTest.class);
    }

    /** With one loop more, for the last p: the row is just used up. */
    @Says(promise = 4, words = STITCHES)
    static void eachTakesAndMakesSoMany(Due due) {
        for (int i = 0; i < NAMES.length; i++) {
            Bench bench = Bench.round(TAKES[i] + 1);
            due.works(bench, NAMES[i] + ",p", MAKES[i] + 1);
            due.same("chart(1, 0) of " + NAMES[i], bench.chart(1, 0), i);
            due.same("numbers of " + NAMES[i], bench.numbers(1),
                "2 0 " + (TAKES[i] + 1) + " " + (MAKES[i] + 1) + (NAMES[i].equals("bind") ? " 1" : " 0"));
        }
    }

    @Says(promise = 4, words = STITCHES)
    static void oneLoopTooFewIsAFault(Due due) {
        for (int i = 0; i < NAMES.length - 1; i++) {
            if (TAKES[i] > 0) {
                due.row(TAKES[i], "k," + NAMES[i], -4002);
                due.row(TAKES[i], "k," + NAMES[i] + ",k9", -4002);
            }
        }
    }

    @Says(promise = 4, words = STITCHES)
    static void oneLoopTooManyIsLeftOver(Due due) {
        for (int i = 0; i < NAMES.length; i++) {
            due.row(TAKES[i] + 2, NAMES[i] + ",k", -7000 - NAMES[i].length() - 2);
        }
    }

    @Says(promise = 4, words = STITCHES)
    static void yoAndCastTakeNoneOfNone(Due due) {
        due.row(1, "k,yo", 2);
        due.row(1, "k,yo39", 40);
        due.row(1, "cast39,k", 40);
        due.row(1, "yo", -7002);
        due.row(1, "cast1", -7005);
    }

    @Says(promise = 4, words = CABLE)
    static void everyCableTakesAndMakesAsMany(Due due) {
        for (int a = 1; a <= 5; a++) {
            for (int b = 1; b <= 5; b++) {
                for (String way : new String[] {"f", "b"}) {
                    String text = "c" + a + "/" + b + way;
                    Bench bench = Bench.round(a + b);
                    due.works(bench, text, a + b);
                    due.same("needle behind " + text, bench.live(0), a + b);
                    due.same("numbers of " + text, bench.numbers(1),
                        "1 " + a * b + " " + (a + b) + " " + (a + b) + " 0");
                    crossed(due, bench, a, b);
                    due.row(a + b - 1, text, -4000);
                    due.row(a + b + 1, text, -7005);
                }
            }
        }
    }

    private static void crossed(Due due, Bench bench, int a, int b) {
        for (int i = 0; i < a + b; i++) {
            int parent = i < b ? a + i : i - b;
            due.same("parents of " + i + " of " + a + "/" + b, bench.parents(a + b + i), String.valueOf(parent));
        }
    }

    @Says(promise = 4, words = CABLE)
    static void flatWorkCrossesInTheOrderOfTheNeedle(Due due) {
        Bench bench = Bench.flat(5);
        due.works(bench, "k,c1/2b,k", 5);
        String[] want = {"4", "2", "1", "3", "0"};
        for (int i = 0; i < want.length; i++) {
            due.same("parents of " + (5 + i), bench.parents(5 + i), want[i]);
        }
        due.works(bench, "c4/1f", 5);
        String[] next = {"5", "9", "8", "7", "6"};
        for (int i = 0; i < next.length; i++) {
            due.same("parents of " + (10 + i), bench.parents(10 + i), next[i]);
        }
    }

    @Says(promise = 4, words = PARENTS)
    static void theCastOnHasNone(Due due) {
        Bench bench = Bench.flat(40);
        due.same("loop(0, 2)", bench.loop(0, 2), 0);
        due.same("loop(39, 2)", bench.loop(39, 2), 0);
        due.refuses("loop(0, 3)", () -> bench.loop(0, 3));
    }

    @Says(promise = 4, words = PARENTS)
    static void yoAndCastHaveNone(Due due) {
        Bench bench = Bench.flat(1);
        due.works(bench, "cast2,k,yo2", 5);
        String[] want = {"", "", "0", "", ""};
        for (int i = 0; i < want.length; i++) {
            due.same("parents of " + (1 + i), bench.parents(1 + i), want[i]);
        }
        due.refuses("loop(1, 3)", () -> bench.loop(1, 3));
        due.refuses("loop(4, 3)", () -> bench.loop(4, 3));
    }

    @Says(promise = 4, words = PARENTS)
    static void bothOfKfbHaveTheOne(Due due) {
        Bench bench = Bench.round(2);
        due.works(bench, "kfb,kfb", 4);
        String[] want = {"0", "0", "1", "1"};
        for (int i = 0; i < want.length; i++) {
            due.same("parents of " + (2 + i), bench.parents(2 + i), want[i]);
        }
        due.refuses("loop(2, 4)", () -> bench.loop(2, 4));
    }

    @Says(promise = 4, words = PARENTS)
    static void stitchesThatTakeMoreHaveAllInOrder(Due due) {
        Bench round = Bench.round(8);
        due.works(round, "k2tog,k3tog,ssk,bind", 3);
        due.same("k2tog", round.parents(8), "0 1");
        due.same("k3tog", round.parents(9), "2 3 4");
        due.same("ssk", round.parents(10), "5 6");
        Bench flat = Bench.flat(8);
        due.works(flat, "bind,k2tog,k3tog,ssk", 3);
        due.same("k2tog, flat", flat.parents(8), "6 5");
        due.same("k3tog, flat", flat.parents(9), "4 3 2");
        due.same("ssk, flat", flat.parents(10), "1 0");
    }

    @Says(promise = 4, words = PARENTS)
    static void stitchesThatTakeOneHaveOne(Due due) {
        Bench bench = Bench.flat(3);
        due.works(bench, "k,p,sl", 3);
        due.same("k", bench.parents(3), "2");
        due.same("p", bench.parents(4), "1");
        due.same("sl", bench.parents(5), "0");
    }
}
