/** work: the tape, the answer, and that nothing changes by a fault. */
public final class Promise04WorkTest {
    private static final String TAPE = "Works the row that the tape (used up) tells:";
    private static final String LIVE = "how many loops are live then;";
    private static final String FAULT = "or - (1000 * fault + place), and nothing changes.";

    /** One text of each fault but the last, on three loops. */
    private static final String[] FAULTS = {"k3,", "(((((k)x2)x2)x2)x2)x2", "rep(k2)to last 0", "yo,kfb,k3", "bind3",
        "k,yo99,yo99,yo99,yo99,yo99,yo99,yo99", "k,p,yo", "k3,yo38"};
    private static final int[] ANSWERS = {-1003, -2004, -3000, -4007, -5000, -6032, -7006, -8007};

    public static void main(String[] args) {
        Sentences.runAll(Promise04WorkTest.class);
    }

    @Says(promise = 4, words = TAPE)
    static void anEmptyTapeTellsNoRow(Due due) {
        Bench bench = Bench.round(1);
        due.same("work()", bench.work(), -1000);
        due.same("work() once more", bench.work(), -1000);
        due.same("rows()", bench.rows(), 0);
    }

    @Says(promise = 4, words = TAPE)
    static void theTapeIsUsedUpByARow(Due due) {
        Bench bench = Bench.round(1);
        due.works(bench, "k", 1);
        due.same("work() of the used tape", bench.work(), -1000);
        due.same("rows()", bench.rows(), 1);
        due.same("feed", bench.feed('k', 1), 1);
    }

    @Says(promise = 4, words = TAPE)
    static void theTapeIsUsedUpByEachFault(Due due) {
        for (int i = 0; i < FAULTS.length; i++) {
            Bench bench = Bench.flat(3);
            due.works(bench, FAULTS[i], ANSWERS[i]);
            due.same("work() of the used tape", bench.work(), -1000);
            due.works(bench, FAULTS[i], ANSWERS[i]);
            due.same("feed behind fault " + (i + 1), bench.feed('p', 1), 1);
            due.same("feed", bench.feed('3', 1), 2);
            due.same("work()", bench.work(), 3);
        }
        Bench bench = Bench.flat(1);
        bench.workAll("k", 30);
        due.works(bench, "k", -9001);
        due.same("feed behind fault 9", bench.feed('k', 1), 1);
    }

    @Says(promise = 4, words = LIVE)
    static void oneLoopIsTheFewest(Due due) {
        due.row(1, "k", 1);
        due.row(3, "k3tog", 1);
        due.row(40, "k,bind39", 1);
        due.row(40, "bind39,k", 1);
    }

    @Says(promise = 4, words = LIVE)
    static void fortyLoopsAreTheMost(Due due) {
        due.row(40, "k40", 40);
        due.row(1, "yo39,k", 40);
        due.row(20, "rep(kfb)to last 0", 40);
        due.row(40, "cast40,bind40", 40);
    }

    @Says(promise = 4, words = LIVE)
    static void onlyTheLoopsOfThisRowAreLive(Due due) {
        Bench bench = Bench.flat(5);
        due.works(bench, "k2tog,yo,bind2,kfb", 4);
        due.same("total(1)", bench.total(1), 4);
        due.works(bench, "k,bind,k2tog", 2);
        due.same("total(1)", bench.total(1), 2);
        due.same("needle", bench.needle(), "10 9");
    }

    @Says(promise = 4, words = FAULT)
    static void theFirstPlaceIsZero(Due due) {
        due.row(1, "", -1000);
        due.row(1, "x", -1000);
        due.row(1, "rep(k)to last 2", -3000);
        due.row(1, "k2", -4000);
        due.row(1, "bind", -5000);
        due.row(1, "(((((", -2004);
    }

    @Says(promise = 4, words = FAULT)
    static void theLastPlaceIsTwoHundred(Due due) {
        String blanks = " ".repeat(194);
        due.row(1, "     " + blanks + "x", -1199);
        due.row(1, " ".repeat(200), -1200);
        due.row(1, "k    " + blanks + ",", -1200);
        due.row(1, "((((k" + blanks + "(", -1199);
        due.row(1, "((((" + blanks + " (", -2199);
        due.row(1, "k,   " + blanks + "k", -4199);
        due.row(1, "k,   " + blanks.substring(3) + "bind", -4196);
        due.row(2, "bind," + blanks.substring(3) + "bind", -5196);
        due.row(2, "k    " + blanks + " ", -7200);
        due.row(40, "yo,k40" + blanks, -8200);
        Bench bench = Bench.flat(1);
        bench.workAll("k", 30);
        due.works(bench, "k    " + blanks + " ", -9200);
    }

    @Says(promise = 4, words = FAULT)
    static void eachFaultIsToldByItsNumber(Due due) {
        for (int i = 0; i < FAULTS.length; i++) {
            due.row(3, FAULTS[i], ANSWERS[i]);
        }
        Bench bench = Bench.round(3);
        bench.workAll("k3", 30);
        due.works(bench, "sl3 ", -9004);
    }

    @Says(promise = 4, words = FAULT)
    static void nothingChangesByAFault(Due due) {
        for (int i = 0; i < FAULTS.length; i++) {
            for (boolean round : new boolean[] {false, true}) {
                Bench bench = Bench.of(2, round);
                due.works(bench, "kfb,p", 3);
                bench.shorten(1);
                String before = bench.state();
                due.works(bench, FAULTS[i], ANSWERS[i]);
                due.same("state behind fault " + (i + 1), bench.state(), before);
                due.works(bench, "c1/1f,bind", 2);
                due.same("needle of the next row", bench.needle(), round ? "5 6" : "6 5");
                due.same("parents of loop 5", bench.parents(5), "3");
                due.same("parents of loop 6", bench.parents(6), round ? "2" : "4");
                due.same("numbers of the next row", bench.numbers(2), "2 1 3 2 1");
            }
        }
    }

    /** Wherever a text or the work breaks off, the next text is read and worked from its beginning. */
    @Says(promise = 4, words = FAULT)
    static void noBracketStaysOpenBehindAFault(Due due) {
        String[] broken = {"((((k", "((((k)x2)x2", "rep(((k,", "(((((", "((((k9)x2)x2)x2)x2", "k,((((bind9)x2)x2)x2)x2",
            "rep(((yo,bind)x2)x9)tolast0", "((((yo99)x9)x9)x9)x9", "rep((k)x2)to last 9", "cast9,((k)x2,("};
        String[] right = {"((((k)x2)x2)x2)x2", "rep((((k)x2)x2)x2)to last 0", "k16", "cast4,(k)x16"};
        for (String wrong : broken) {
            for (String text : right) {
                Bench bench = Bench.round(16);
                for (int i = 0; i < 6; i++) {
                    due.same("sign of work of '" + wrong + "'", Integer.signum(bench.work(wrong)), -1);
                }
                due.works(bench, text, text.startsWith("cast4") ? 20 : 16);
                due.same("row(1, 2)", bench.row(1, 2), 16);
            }
        }
    }

    @Says(promise = 4, words = FAULT)
    static void nothingChangesByARowTooMany(Due due) {
        Bench bench = Bench.flat(2);
        bench.workAll("k,p", 30);
        bench.shorten(30);
        due.works(bench, "bind,k", -9006);
        due.same("rows()", bench.rows(), 30);
        due.same("needle", bench.needle(), "61 60");
        due.same("totals", bench.totals(), "62 2 60 0");
        due.same("chart", bench.chart(30), "0 1");
        due.same("loop(61, 1)", bench.loop(61, 1), 0);
        due.refuses("loop(62, 0)", () -> bench.loop(62, 0));
        due.refuses("row(31, 0)", () -> bench.row(31, 0));
        due.same("out", bench.out(), "k,p");
    }
}
