/** shorten. */
public final class Promise11ShortenTest {
    private static final String SHORTEN = "The shortest text of a row becomes what out() tells: its words.";
    private static final String REFUSES = "IllegalArgumentException: no such row.";
    private static final String STITCHES = "THE SHORTEST: a row's stitches (a cable being one) told by bare names,"
        + " groups, and commas.";
    private static final String WORD = "A WORD is a stitch's name, or a group's brackets with its count.";
    private static final String ONE = "Told is a part of the row of n stitches, within d groups: one stitch by its"
        + " name (k p sl k2tog ssk k3tog kfb yo bind cast1, cables as above);";
    private static final String FEWEST = "otherwise that which takes the fewest words of, in this order, the first of"
        + " the same:";
    private static final String GROUP = "a group of its first q stitches told, for q = 1, 2, .., n / 2, when n is q"
        + " times c and the part is those q stitches c times (d below 4; within d + 1 groups);";
    private static final String SPLIT = "the first q stitches told, a comma, the others told, for q = 1, 2, .., n - 1"
        + " (both within d groups).";
    private static final String BLANKS = "No blanks.";

    public static void main(String[] args) {
        Sentences.runAll(Promise11ShortenTest.class);
    }

    /** Works the text as a first row, and tells it anew. */
    private static void told(Due due, int loops, String text, int words, String want) {
        for (boolean round : new boolean[] {false, true}) {
            Bench bench = Bench.of(loops, round);
            due.same("sign of work of '" + text + "'", Integer.signum(bench.work(text)), 1);
            due.same("words of '" + text + "'", bench.shorten(1), words);
            due.same("shortest of '" + text + "'", bench.out(), want);
        }
    }

    /** A text that is the shortest of itself. */
    private static void stays(Due due, int loops, String text, int words) {
        told(due, loops, text, words, text);
    }

    @Says(promise = 11, words = SHORTEN)
    static void eachCallTellsItsOwnRow(Due due) {
        Bench bench = Bench.flat(4);
        due.works(bench, "k2,p2", 4);
        due.works(bench, "k4", 4);
        due.works(bench, "k,p,k,p", 4);
        due.same("shorten(1)", bench.shorten(1), 4);
        due.same("out", bench.out(), "k,k,(p)x2");
        due.same("shorten(3)", bench.shorten(3), 3);
        due.same("out", bench.out(), "(k,p)x2");
        due.same("shorten(2)", bench.shorten(2), 2);
        due.same("out", bench.out(), "(k)x4");
        due.same("shorten(1) again", bench.shorten(1), 4);
        due.same("out", bench.out(), "k,k,(p)x2");
    }

    @Says(promise = 11, words = SHORTEN)
    static void theThirtiethRowIsTheLast(Due due) {
        Bench bench = Bench.flat(3);
        bench.workAll("k3", 29);
        due.works(bench, "k,p2", 3);
        due.same("shorten(30)", bench.shorten(30), 3);
        due.same("out", bench.out(), "k,(p)x2");
        due.refuses("shorten(31)", () -> bench.shorten(31));
        due.same("shorten(29)", bench.shorten(29), 2);
    }

    @Says(promise = 11, words = SHORTEN)
    static void nothingElseChanges(Due due) {
        Bench bench = Bench.flat(3);
        due.works(bench, "k,ssk", 2);
        due.works(bench, "yo,p2", 3);
        bench.type("k,");
        String before = bench.state();
        bench.shorten(2);
        due.same("state", bench.state(), before + "yo,(p)x2");
        due.works(bench, "p2", 3);
    }

    @Says(promise = 11, words = REFUSES)
    static void noRowBelowOne(Due due) {
        refused(due, 0);
        refused(due, -1);
        refused(due, Integer.MIN_VALUE);
    }

    @Says(promise = 11, words = REFUSES)
    static void noRowBehindTheLast(Due due) {
        refused(due, 2);
        refused(due, 31);
        refused(due, Integer.MAX_VALUE);
        Bench empty = new Bench();
        due.refuses("shorten(1) of no row", () -> empty.shorten(1));
        due.same("out(0)", empty.out(0), -1);
    }

    private static void refused(Due due, int row) {
        Bench bench = Bench.flat(2);
        due.works(bench, "k,p", 2);
        due.refuses("shorten(" + row + ")", () -> bench.shorten(row));
        due.same("out(0) when there was none", bench.out(0), -1);
        due.same("shorten(1)", bench.shorten(1), 2);
        due.refuses("shorten(" + row + ")", () -> bench.shorten(row));
        due.same("the latest text stays", bench.out(), "k,p");
    }

    @Says(promise = 11, words = REFUSES)
    static void noRowThatWasTakenBack(Due due) {
        Bench bench = Bench.flat(2);
        due.works(bench, "k,p", 2);
        due.works(bench, "k2", 2);
        due.same("shorten(2)", bench.shorten(2), 2);
        bench.unravel(1);
        due.refuses("shorten(2)", () -> bench.shorten(2));
        due.same("the latest text stays", bench.out(), "(k)x2");
        due.works(bench, "p2", 2);
        due.same("shorten(2)", bench.shorten(2), 2);
        due.same("the text of the new row", bench.out(), "(p)x2");
    }

    @Says(promise = 11, words = STITCHES)
    static void aRowIsToldAsWorkedNotAsSeen(Due due) {
        Bench bench = Bench.flat(3);
        due.works(bench, "k,p2", 3);
        due.works(bench, "k,p2", 3);
        bench.shorten(1);
        due.same("front row", bench.out(), "k,(p)x2");
        bench.shorten(2);
        due.same("back row", bench.out(), "k,(p)x2");
    }

    @Says(promise = 11, words = STITCHES)
    static void aCableIsOneStitch(Due due) {
        told(due, 10, "c2/3f,c2/3f", 2, "(c2/3f)x2");
        told(due, 40, "(c5/5b)x4", 2, "(c5/5b)x4");
        stays(due, 10, "c2/3f,c2/3b", 2);
        stays(due, 6, "c1/2f,c2/1f", 2);
        stays(due, 5, "c1/1f,c1/2f", 2);
        stays(due, 5, "c1/1f,c2/1f", 2);
    }

    @Says(promise = 11, words = STITCHES)
    static void countsAndRepeatsAreNotTold(Due due) {
        told(due, 3, "k1,p1,sl1", 3, "k,p,sl");
        told(due, 8, "rep(k,p)to last 0", 3, "(k,p)x4");
        told(due, 8, "(k4)x2", 2, "(k)x8");
        told(due, 3, "rep(k)to last 3,p,k,p", 3, "p,k,p");
    }

    @Says(promise = 11, words = WORD)
    static void bracketsWithTheirCountAreOneWord(Due due) {
        told(due, 2, "k2", 2, "(k)x2");
        told(due, 40, "k40", 2, "(k)x40");
        told(due, 18, "(k3,p3)x2,(k,p)x3", 8, "((k)x3,(p)x3)x2,(k,p)x3");
    }

    @Says(promise = 11, words = ONE)
    static void eachStitchHasItsName(Due due) {
        stays(due, 11, "cast1,k,p,sl,k2tog,ssk,k3tog,kfb", 8);
        stays(due, 2, "yo,bind,k", 3);
    }

    @Says(promise = 11, words = ONE)
    static void aRowOfOneStitchIsItsName(Due due) {
        told(due, 1, " k1 ", 1, "k");
        stays(due, 1, "p", 1);
        stays(due, 1, "sl", 1);
        stays(due, 2, "k2tog", 1);
        stays(due, 2, "ssk", 1);
        stays(due, 3, "k3tog", 1);
        stays(due, 1, "kfb", 1);
    }

    @Says(promise = 11, words = ONE)
    static void cablesAreToldWithTheirDigits(Due due) {
        for (int a = 1; a <= 5; a++) {
            for (int b = 1; b <= 5; b++) {
                stays(due, a + b, "c" + a + "/" + b + "f", 1);
                stays(due, a + b, "c" + a + "/" + b + "b", 1);
            }
        }
    }

    @Says(promise = 11, words = ONE)
    static void castIsToldWithAOne(Due due) {
        told(due, 1, "cast1,k", 2, "cast1,k");
        told(due, 2, "cast2,k2", 4, "cast1,cast1,(k)x2");
        told(due, 2, "cast12,k,p", 4, "(cast1)x12,k,p");
        told(due, 40, "cast40,bind40", 4, "(cast1)x40,(bind)x40");
    }

    @Says(promise = 11, words = FEWEST)
    static void aGroupComesBeforeSplitsOfAsManyWords(Due due) {
        told(due, 2, "k,k", 2, "(k)x2");
        told(due, 2, "p2", 2, "(p)x2");
        told(due, 3, "k,p,p", 3, "k,(p)x2");
    }

    @Says(promise = 11, words = FEWEST)
    static void fewerWordsComeBeforeAll(Due due) {
        told(due, 5, "k,p,k,p,k", 4, "k,(p,k)x2");
        told(due, 13, "(k,p)x6,k", 4, "k,(p,k)x6");
        told(due, 7, "(k2,p)x2,p", 5, "(k,k,p)x2,p");
    }

    @Says(promise = 11, words = GROUP)
    static void qIsOneAtTheLeast(Due due) {
        told(due, 3, "k3", 2, "(k)x3");
        told(due, 4, "k,k,k,k", 2, "(k)x4");
        told(due, 9, "p9", 2, "(p)x9");
        told(due, 10, "p10", 2, "(p)x10");
        told(due, 39, "sl39", 2, "(sl)x39");
    }

    @Says(promise = 11, words = GROUP)
    static void qIsHalfTheStitchesAtTheMost(Due due) {
        told(due, 4, "k,p,k,p", 3, "(k,p)x2");
        told(due, 6, "k,p,sl,k,p,sl", 4, "(k,p,sl)x2");
        told(due, 40, "k19,p,k19,p", 4, "((k)x19,p)x2");
        told(due, 40, "(yo20,bind20)x2", 5, "((yo)x20,(bind)x20)x2");
        stays(due, 3, "k,p,k", 3);
    }

    @Says(promise = 11, words = GROUP)
    static void theGroupIsTheWholePart(Due due) {
        told(due, 5, "(k,p)x2,sl", 4, "(k,p)x2,sl");
        told(due, 5, "sl,(k,p)x2", 4, "sl,(k,p)x2");
        told(due, 5, "k2,p,k2", 5, "k,k,p,(k)x2");
        told(due, 6, "k,p,p,k,p,k", 5, "k,p,(p,k)x2");
    }

    @Says(promise = 11, words = GROUP)
    static void countsAreTheMostThatFit(Due due) {
        told(due, 40, "(yo,bind)x40", 3, "(yo,bind)x40");
        told(due, 40, "yo40,bind40", 4, "(yo)x40,(bind)x40");
        told(due, 40, "(k,p)x20", 3, "(k,p)x20");
        told(due, 40, "(k2,p2)x10", 5, "(k,k,(p)x2)x10");
    }

    /** Two stitches alike would be told as a group, were they not within four already. */
    @Says(promise = 11, words = GROUP)
    static void fourGroupsWithinOneAnotherAreTheMost(Due due) {
        stays(due, 27, "(((bind,(yo)x2)x2,p)x2,bind)x2,(p)x13", 10);
        told(due, 30, "((((bind,yo2)x2,p)x2,bind)x2,bind)x2", 10, "((((bind,yo,yo)x2,p)x2,bind)x2,bind)x2");
    }

    @Says(promise = 11, words = SPLIT)
    static void theShortestFirstPartComesFirst(Due due) {
        told(due, 4, "k2,p2", 4, "k,k,(p)x2");
        told(due, 6, "k3,p3", 4, "(k)x3,(p)x3");
        told(due, 5, "k2,p3", 4, "k,k,(p)x3");
        told(due, 5, "k3,p2", 4, "(k)x3,(p)x2");
    }

    @Says(promise = 11, words = SPLIT)
    static void theLastPartMayBeOneStitch(Due due) {
        told(due, 4, "k3,p", 3, "(k)x3,p");
        told(due, 3, "k2,p", 3, "k,k,p");
        told(due, 40, "k39,p", 3, "(k)x39,p");
    }

    @Says(promise = 11, words = SPLIT)
    static void partsWithinAGroupAreSplitToo(Due due) {
        told(due, 12, "(k2,p,sl3)x2", 6, "(k,k,p,(sl)x3)x2");
        told(due, 14, "(k3,p,sl3)x2", 6, "((k)x3,p,(sl)x3)x2");
    }

    @Says(promise = 11, words = BLANKS)
    static void blanksOfTheRowAreNotTold(Due due) {
        told(due, 8, "  k , ( p , sl ) x2 , rep ( k ) to last 0  ", 6, "k,(p,sl)x2,(k)x3");
    }
}
