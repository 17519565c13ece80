/** work: the faults, each at its edge, with their places and their order. */
public final class Promise04FaultsTest {
    private static final String WRONG = "FAULTS, each with a place: 1 the text is wrong, at the first byte with which"
        + " it can't be right, whatever follows (its length when something is missing).";
    private static final String DEEP =
        "2 Brackets more than 4 within one another: at the (. These as they come.";
    private static final String THEN = "Then, when the text is right, in the order of the work:";
    private static final String REPEAT = "3 a repeat whose row takes no loop, or that can't be run a whole number of"
        + " times (0, too) so that just as many loops stay as are told: at its r.";
    private static final String FEW = "4 A stitch takes more loops than there are left.";
    private static final String ONLY = "5 A bind takes the only loop that is there (those that are left, and those"
        + " made in the row, without it).";
    private static final String MANY = "6 There would be more than 600 loops ever since the cast on (loops of rows"
        + " taken back do not count):";
    private static final String PLACE = "all at the first byte of the item that has the stitch (with the brackets"
        + " left aside).";
    private static final String LEFT = "Behind the last stitch, at the text's length: 7 loops are left over.";
    private static final String LIVE = "8 More than 40 loops are live.";
    private static final String ROWS = "9 There were 30 rows.";

    public static void main(String[] args) {
        Sentences.runAll(Promise04FaultsTest.class);
    }

    /** Whatever right text is broken off by a sign that stands nowhere: it goes wrong at that sign. */
    @Says(promise = 4, words = WRONG)
    static void everyBeginningCanStillBeRight(Due due) {
        String[] right = {"cast12,k2tog,ssk,k3tog,kfb,yo2,bind13,p,sl40", "rep ( k2 , c1/5b ) to last 10 , sl3",
            "((((k , p10)x20 ,ssk)x3)x99 )  x2,rep(((yo)x2)x2)tolast0,c3/4f"};
        for (String text : right) {
            for (int length = 0; length <= text.length(); length++) {
                String begun = text.substring(0, length);
                due.works(Bench.round(1), begun + "!", -1000 - length);
                due.works(Bench.round(1), begun + "\u00ff" + text.substring(length), -1000 - length);
            }
        }
    }

    @Says(promise = 4, words = WRONG)
    static void whatIsMissingIsMissingAtTheLength(Due due) {
        String[] begun = {"", "  ", "k,", "k , ", "s", "y", "b", "c", "ca", "cast", "c5", "c5/", "c5/5", "(", "( ",
            "(k", "(k ", "(k)", "(k) ", "(k)x", "(k)x1", "r", "re", "rep", "rep ", "rep(", "rep(k", "rep(k)", "rep(k)t",
            "rep(k)to", "rep(k)to ", "rep(k)tol", "rep(k)tolast", "rep(k)tolast ", "k2t", "k2to", "k3t", "kf", "ss"};
        for (String text : begun) {
            due.row(1, text, -1000 - text.length());
        }
    }

    @Says(promise = 4, words = WRONG)
    static void whatFollowsAWrongByteIsLeftAside(Due due) {
        due.row(1, "x", -1000);
        due.row(1, "x(((((", -1000);
        due.row(1, "k;(((((", -1001);
        due.row(1, "k,,k9", -1002);
        due.row(1, "kx", -1001);
        due.row(1, "k99x,k", -1003);
    }

    @Says(promise = 4, words = DEEP)
    static void fourBracketsAreTheMost(Due due) {
        due.row(16, "((((k)x2)x2)x2)x2", 16);
        due.row(8, "rep((((k)x2)x2)x2)to last 0", 8);
        due.row(16, "(((((k)x2)x2)x2)x2)x2", -2004);
        due.row(16, "rep(((((k)x2)x2)x2)x2)to last 0", -2007);
    }

    @Says(promise = 4, words = DEEP)
    static void theFifthIsToldAtItsPlace(Due due) {
        due.row(1, "(((((", -2004);
        due.row(1, " ( ( ( ( (", -2009);
        due.row(1, "k,((((p,(", -2008);
        due.row(1, "((((k)x2,((", -2010);
        due.row(1, "rep ( ( ( ( (", -2012);
        due.row(1, "((k)x2,((k)x2,(((", -2016);
    }

    @Says(promise = 4, words = DEEP)
    static void closedBracketsDoNotCount(Due due) {
        due.row(10, "(k)x2,(k)x2,(k)x2,(k)x2,(k)x2", 10);
        due.row(12, "((k)x2,(k)x2,(k)x2)x2", 12);
        due.row(32, "((((k)x2)x2)x2)x2,((((k)x2)x2)x2)x2", 32);
        due.row(36, "((((k)x2)x2)x2,(((k)x2)x2)x2,(k)x2)x2", 36);
    }

    @Says(promise = 4, words = DEEP)
    static void theFirstOfOneAndTwoIsTold(Due due) {
        due.row(1, "(((((!", -2004);
        due.row(1, "((((!(", -1004);
        due.row(1, "((((k(", -1005);
        due.row(1, "k,,(((((", -1002);
        due.row(1, "(((((", -2004);
        due.row(1, "((((", -1004);
        due.row(1, "((((rep(", -1004);
    }

    @Says(promise = 4, words = THEN)
    static void aWrongTextIsToldBeforeAnyWork(Due due) {
        due.row(3, "k9,x", -1003);
        due.row(3, "bind3,", -1006);
        due.row(3, "rep(yo)to last 0,(((((", -2021);
        due.row(3, "yo99,yo99,yo99,yo99,yo99,yo99,yo99,k3)", -1037);
        Bench bench = Bench.flat(1);
        bench.workAll("k", 30);
        due.works(bench, "k,", -1002);
        due.works(bench, "(((((", -2004);
    }

    @Says(promise = 4, words = THEN)
    static void ofTheFaultsOfTheWorkTheFirstIsTold(Due due) {
        due.row(7, "rep(k2)to last 0,k9,bind", -3000);
        due.row(7, "k9,rep(k2)to last 0", -4000);
        due.row(7, "bind9,k8", -5000);
        due.row(7, "bind6,rep(k2)to last 0,bind", -3006);
        due.row(7, "bind6,bind,rep(k2)to last 0", -5006);
        due.row(7, "yo99,yo99,yo99,yo99,yo99,yo99,k9", -6025);
        due.row(7, "k8,yo99,yo99,yo99,yo99,yo99,yo99,yo9", -4000);
    }

    @Says(promise = 4, words = THEN)
    static void ofOneStitchsFaultsTheFirstIsTold(Due due) {
        Bench bench = Bench.round(40);
        bench.workAll("k40", 14);
        due.same("total(0)", bench.total(0), 600);
        due.works(bench, "bind39,k2tog", -4007);
        due.works(bench, "bind39,k", -6007);
        due.works(bench, "bind40", -5000);
    }

    @Says(promise = 4, words = REPEAT)
    static void aRowThatTakesNoLoopIsNeverRight(Due due) {
        due.row(3, "rep(yo)to last 0", -3000);
        due.row(3, "rep(yo)to last 3,k3", -3000);
        due.row(3, "k3,rep(yo)to last 0", -3003);
        due.row(3, "k2,rep((yo)x2,yo3)to last 1,k", -3003);
        due.row(3, "rep(yo,k)to last 0", 6);
    }

    @Says(promise = 4, words = REPEAT)
    static void itIsRunAWholeNumberOfTimes(Due due) {
        due.row(7, "rep(k2)to last 0", -3000);
        due.row(7, "rep(k2)to last 1,k", 7);
        due.row(7, "rep(k2)to last 2,k2", -3000);
        due.row(7, "rep(k3tog)to last 1,k", 3);
        due.row(7, "rep(k,k2tog)to last 2,k2", -3000);
        due.row(7, "rep(c2/1f,yo)to last 1,k", 9);
        due.row(7, "rep((k,ssk)x2,yo)to last 1,p", 6);
        due.row(7, "rep((k,ssk)x2,yo)to last 2,p2", -3000);
        due.row(7, "rep(k,(p)x2)to last 1,k", 7);
        due.row(7, "rep(k,(p)x2)to last 2,k2", -3000);
        due.row(7, "rep((k)x2,(p)x2,k2)to last 1,k", 7);
        due.row(40, "rep(k,((p,sl)x2,k)x2,(k2tog)x3)to last 6,k6", 34);
        due.row(40, "rep(k,((p,sl)x2,k)x2,(k2tog)x3)to last 7,k7", -3000);
        due.row(7, "rep(bind,kfb)to last 1,k", 7);
    }

    @Says(promise = 4, words = REPEAT)
    static void itMayBeRunNoTimes(Due due) {
        due.row(3, "k3,rep(k)to last 0", 3);
        due.row(3, "rep(k)to last 3,k3", 3);
        due.row(3, "rep(k9)to last 3,k3", 3);
        due.row(3, "k,rep(c5/5f)to last 2,k2", 3);
        Bench bench = Bench.round(3);
        due.works(bench, "rep(p,yo)to last 3,k3", 3);
        due.same("chart", bench.chart(1), "0 0 0");
    }

    @Says(promise = 4, words = REPEAT)
    static void moreThanAreLeftCannotStay(Due due) {
        due.row(3, "rep(k)to last 4", -3000);
        due.row(3, "rep(k)to last 99", -3000);
        due.row(3, "k,rep(k)to last 3,k2", -3002);
        due.row(3, "k3,rep(k)to last 1", -3003);
        due.row(3, "rep(k2)to last 5", -3000);
    }

    @Says(promise = 4, words = REPEAT)
    static void aRowThatTakesTooManyCannotBeRun(Due due) {
        due.row(3, "rep(k4)to last 0", -3000);
        due.row(3, "rep(k3)to last 0", 3);
        due.row(3, "rep(k3)to last 1", -3000);
    }

    /** 42 times 99 times 99 times 99 times 99 loops: an int would wrap round. */
    @Says(promise = 4, words = REPEAT)
    static void aRowMayTakeMoreThanAnIntHolds(Due due) {
        String many = "k99,".repeat(41) + "k99";
        due.row(7, "rep((((" + many + ")x99)x99)x99)to last 0", -3000);
        due.row(7, "k7,rep((((" + many + ")x99)x99)x99)tolast0", 7);
        due.row(40, "k7,rep((((" + many + ")x99)x99)x99)tolast0", -3003);
    }

    /** Each repeat counts the loops of its own row anew. */
    @Says(promise = 4, words = REPEAT)
    static void repeatsDoNotCountForOneAnother(Due due) {
        due.row(11, "k2,rep(k3)to last 3,rep(p)to last 0", 11);
        due.row(11, "(k)x2,rep((p)x3)to last 6,rep(sl2)to last 2,rep(yo,k)to last 0", 13);
        Bench bench = Bench.round(6);
        due.works(bench, "rep(k4)to last 0", -3000);
        due.works(bench, "rep(k2)to last 0", 6);
        due.works(bench, "(k2)x3,rep(k5)to last 0", 6);
        due.works(bench, "rep(p3)to last 0", 6);
    }

    @Says(promise = 4, words = REPEAT)
    static void theFaultStandsAtItsR(Due due) {
        due.row(7, "  rep ( k2 ) to last 0", -3002);
        due.row(7, "k , rep(k2)to last 1,k", -3004);
        due.row(7, "rep(k)to last 3,  rep(k2)to last 0", -3018);
        due.row(7, "yo,(k)x2,rep(k2)to last 0", -3009);
    }

    @Says(promise = 4, words = FEW)
    static void justAsManyAsAreLeftWillDo(Due due) {
        due.row(1, "k", 1);
        due.row(2, "k2tog", 1);
        due.row(3, "k,ssk", 2);
        due.row(3, "k3tog", 1);
        due.row(4, "k2,c1/1b", 4);
        due.row(10, "c5/5f", 10);
        due.row(2, "k,kfb", 3);
        due.row(2, "k,bind", 1);
    }

    @Says(promise = 4, words = FEW)
    static void oneMoreIsTooMany(Due due) {
        due.row(1, "k2", -4000);
        due.row(1, "k,p", -4002);
        due.row(1, "k,sl", -4002);
        due.row(1, "k2tog", -4000);
        due.row(1, "ssk", -4000);
        due.row(2, "k3tog", -4000);
        due.row(1, "k,kfb", -4002);
        due.row(1, "k,bind", -4002);
        due.row(9, "c5/5f", -4000);
        due.row(9, "k,c4/5b", -4002);
        due.row(40, "k41", -4000);
    }

    @Says(promise = 4, words = FEW)
    static void loopsMadeInTheRowAreNotLeft(Due due) {
        due.row(1, "yo5,k2", -4004);
        due.row(1, "cast5,k2", -4006);
        due.row(1, "kfb,k", -4004);
    }

    @Says(promise = 4, words = ONLY)
    static void theOnlyLoopIsNotBound(Due due) {
        due.row(1, "bind", -5000);
        due.row(1, "bind,yo", -5000);
        due.row(3, "bind3", -5000);
        due.row(3, "bind2, bind", -5007);
        due.row(40, "bind40", -5000);
        due.row(3, "(bind)x3", -5001);
        due.row(3, "rep(bind)to last 0", -5004);
    }

    @Says(promise = 4, words = ONLY)
    static void aLoopThatIsLeftIsEnough(Due due) {
        due.row(2, "bind,k", 1);
        due.row(40, "bind39,k", 1);
        due.row(3, "rep(bind)to last 1,k", 1);
    }

    @Says(promise = 4, words = ONLY)
    static void aLoopMadeInTheRowIsEnough(Due due) {
        due.row(1, "yo,bind", 1);
        due.row(1, "cast1,bind", 1);
        due.row(2, "k,bind", 1);
        due.row(2, "k2tog,bind", -4006);
        due.row(40, "k,bind39", 1);
        due.row(2, "bind,yo,bind", 1);
    }

    @Says(promise = 4, words = MANY)
    static void sixHundredLoopsAreTheMost(Due due) {
        Bench bench = Bench.round(40);
        bench.workAll("k40", 14);
        due.same("total(0)", bench.total(0), 600);
        due.same("live(39)", bench.live(39), 599);
        due.same("loop(599, 0)", bench.loop(599, 0), 14);
        due.refuses("loop(600, 0)", () -> bench.loop(600, 0));
        due.works(bench, "k", -6000);
        due.works(bench, "yo", -6000);
        due.works(bench, "cast1", -6000);
        due.works(bench, "c1/1f", -6000);
        due.works(bench, "k2tog", -6000);
        due.works(bench, "bind39,k", -6007);
    }

    @Says(promise = 4, words = MANY)
    static void theyCountOneByOne(Due due) {
        Bench bench = Bench.round(40);
        bench.workAll("k40", 13);
        due.works(bench, "rep(k2tog)to last 0", 20);
        due.works(bench, "k19,kfb", -6004);
        due.works(bench, "k18,kfb,p", -6008);
        due.works(bench, "k18,kfb,bind", 20);
        due.same("total(0)", bench.total(0), 600);
    }

    @Says(promise = 4, words = MANY)
    static void aStitchThatMakesMoreIsOneStitch(Due due) {
        Bench bench = Bench.flat(40);
        bench.workAll("k40", 13);
        due.works(bench, "k38,kfb,kfb", -6008);
        due.works(bench, "yo2,k35,c3/2f", -6008);
        due.works(bench, "yo,k35,c3/2f", -6007);
        due.works(bench, "k35,c3/2f", 40);
    }

    @Says(promise = 4, words = MANY)
    static void theDeadAndTheCastOnCountToo(Due due) {
        Bench bench = Bench.round(1);
        due.works(bench, "k,yo99,yo99,yo99,yo99,yo99,yo99,yo4", -8035);
        due.works(bench, "k,yo99,yo99,yo99,yo99,yo99,yo99,yo5", -6032);
        due.works(bench, "k", 1);
        due.works(bench, "k,yo99,yo99,yo99,yo99,yo99,yo99,yo3", -8035);
        due.works(bench, "k,yo99,yo99,yo99,yo99,yo99,yo99,yo4", -6032);
        due.works(Bench.round(40), "yo99,yo99,yo99,yo99,yo99,yo25,k40", -8033);
        due.works(Bench.round(40), "yo99,yo99,yo99,yo99,yo99,yo26,k40", -6030);
    }

    @Says(promise = 4, words = MANY)
    static void rowsTakenBackDoNotCount(Due due) {
        Bench bench = Bench.round(40);
        bench.workAll("k40", 14);
        for (int i = 0; i < 20; i++) {
            due.same("unravel(1)", bench.unravel(1), 13);
            due.works(bench, "p40", 40);
        }
        due.works(bench, "p40", -6000);
        due.same("unravel(14)", bench.unravel(14), 0);
        bench.workAll("sl40", 14);
        due.same("total(0)", bench.total(0), 600);
        due.works(bench, "p40", -6000);
    }

    @Says(promise = 4, words = MANY)
    static void rowsThatFailedDoNotCount(Due due) {
        Bench bench = Bench.round(1);
        for (int i = 0; i < 5; i++) {
            due.works(bench, "k,yo99,yo99,yo99,yo99,yo99,yo99,yo4", -8035);
            due.works(bench, "k,yo99,yo99,yo99,yo99,yo99,yo99,yo5", -6032);
        }
        due.works(bench, "k", 1);
        due.same("total(0)", bench.total(0), 2);
    }

    @Says(promise = 4, words = PLACE)
    static void thePlaceIsThatOfTheItem(Due due) {
        due.row(3, "k2 , k2tog", -4005);
        due.row(3, "  k9", -4002);
        due.row(3, "k,c1/1f,sl", -4008);
        due.row(3, "bind2,  bind", -5008);
        due.row(3, "k3 ,yo99,yo99,yo99,yo99,yo99,yo99,yo", -6034);
    }

    @Says(promise = 4, words = PLACE)
    static void bracketsAreLeftAside(Due due) {
        due.row(3, "((k)x2)x2", -4002);
        due.row(5, "(k,(p)x3)x2", -4004);
        due.row(5, "( k , ( ( p ) x3 , ssk ) x2 ) x2", -4019);
        due.row(3, "bind,(k2tog)x2", -4006);
        due.row(3, "((bind)x2,  (bind)x2)x2", -5013);
        due.row(3, "( (yo)x99,(yo60)x9)x2", -6011);
        due.row(3, "( (yo)x99,(yo50)x9)x2", -6003);
        due.row(3, "rep(bind2,bind)to last 0", -5010);
    }

    @Says(promise = 4, words = LEFT)
    static void noLoopMayBeLeftOver(Due due) {
        due.row(3, "k2", -7002);
        due.row(3, "k2   ", -7005);
        due.row(3, "  k2", -7004);
        due.row(3, "k3", 3);
        due.row(40, "k", -7001);
        due.row(3, "yo", -7002);
        due.row(3, "rep(k)to last 1", -7015);
        due.row(3, "rep(k)to last 3", -7015);
    }

    @Says(promise = 4, words = LEFT)
    static void itIsToldBeforeEightAndNine(Due due) {
        due.row(1, "yo41", -7004);
        due.row(40, "yo40,k39", -7008);
        Bench bench = Bench.flat(2);
        bench.workAll("k2", 30);
        due.works(bench, "k", -7001);
        due.works(bench, "yo50", -7004);
    }

    @Says(promise = 4, words = LIVE)
    static void fortyAreTheMostThatMayLive(Due due) {
        due.row(40, "k40", 40);
        due.row(40, "yo,k40", -8006);
        due.row(40, "kfb,k39 ", -8008);
        due.row(1, "yo39,k", 40);
        due.row(1, "yo40,k", -8006);
        due.row(1, "cast39,k", 40);
        due.row(1, "cast40,k", -8008);
        due.row(21, "rep(kfb)to last 0", -8017);
    }

    @Says(promise = 4, words = LIVE)
    static void onlyTheEndOfTheRowIsLookedAt(Due due) {
        due.row(40, "yo40,bind40", 40);
        due.row(40, "yo20,bind20,yo20,bind20", 40);
        due.row(40, "cast30,(bind)x30,k10", 40);
        due.row(40, "cast30,(bind)x29,k11", -8020);
    }

    @Says(promise = 4, words = LIVE)
    static void itIsToldBeforeNine(Due due) {
        Bench bench = Bench.flat(2);
        bench.workAll("k2", 30);
        due.works(bench, "yo39,k2", -8007);
        due.works(bench, "yo38,k2", -9007);
    }

    @Says(promise = 4, words = ROWS)
    static void thirtyRowsAreTheMost(Due due) {
        for (boolean round : new boolean[] {false, true}) {
            Bench bench = Bench.of(1, round);
            bench.workAll("k", 29);
            due.works(bench, "k", 1);
            due.same("rows()", bench.rows(), 30);
            due.works(bench, "k", -9001);
            due.works(bench, "k  ", -9003);
            due.same("rows()", bench.rows(), 30);
        }
    }

    @Says(promise = 4, words = ROWS)
    static void aRowTakenBackMakesRoom(Due due) {
        Bench bench = Bench.flat(1);
        bench.workAll("k", 30);
        due.works(bench, "p", -9001);
        bench.unravel(1);
        due.works(bench, "p", 1);
        due.works(bench, "p", -9001);
        bench.unravel(30);
        bench.workAll("p", 30);
        due.works(bench, "p", -9001);
    }

    @Says(promise = 4, words = ROWS)
    static void allOthersAreToldBefore(Due due) {
        Bench bench = Bench.flat(2);
        bench.workAll("k2", 30);
        due.works(bench, "k2;", -1002);
        due.works(bench, "(((((", -2004);
        due.works(bench, "rep(yo)to last 0", -3000);
        due.works(bench, "k3", -4000);
        due.works(bench, "bind2", -5000);
        due.works(bench, "yo99,yo99,yo99,yo99,yo99,yo99", -6025);
        due.works(bench, "k", -7001);
        due.works(bench, "k2,yo39", -8007);
        due.works(bench, "k2", -9002);
    }
}
