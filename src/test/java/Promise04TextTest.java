/** work: what a text may be, with the edges of every count, and the place where it goes wrong. */
public final class Promise04TextTest {
    private static final String BLANKS =
        "Blanks may stand between words and signs (nowhere one must: tolast3 goes), not within names and numbers.";
    private static final String ROW = "A ROW is one or more ITEMS with commas between them.";
    private static final String NAME = "An item is: a NAME k, p, sl, yo, bind, or cast, perhaps with a COUNT right"
        + " behind it (1 .. 99: so many of them; cast has to have one);";
    private static final String SINGLE = "k2tog, ssk, k3tog, kfb;";
    private static final String CABLE = "a cable: c, a digit a, /, a digit b (1 .. 5 both), f or b (in front, behind),"
        + " with nothing between;";
    private static final String GROUP = "a GROUP: ( ROW ) x and a count (2 .. 99), x right before it;";
    private static final String REPEAT = "a REPEAT: rep ( ROW ) to last and a number (0 .. 99; between any two of"
        + " these blanks may stand, none must).";
    private static final String STANDS =
        "Repeats stand in no brackets, cast only as the first item of the whole text.";
    private static final String ZERO = "Counts and numbers have no 0 in front.";
    private static final String LONG =
        "Names are as long as they can be (k2tog is no k2, and k2to is the beginning of one).";

    private static final String[] COUNTED = {"k", "p", "sl", "yo", "bind"};

    public static void main(String[] args) {
        Sentences.runAll(Promise04TextTest.class);
    }

    @Says(promise = 4, words = BLANKS)
    static void nowhereOneMust(Due due) {
        due.row(3, "rep(k)tolast3,k3", 3);
        due.row(8, "k,p2,(sl,yo)x2,rep(k2tog)tolast1,bind", 8);
        due.row(8, "cast2,c1/1f,rep((k,p)x2)tolast2,ssk", 9);
    }

    @Says(promise = 4, words = BLANKS)
    static void theyMayStandBetweenAllOfThem(Due due) {
        due.row(8, " k , p2 , ( sl , yo ) x2 , rep ( k2tog ) to last 1 , bind ", 8);
        due.row(8, "   k   ,   p2   ,   (   sl   ,   yo   )   x2   ,"
            + "   rep   (   k2tog   )   to   last   1   ,   bind   ", 8);
        due.row(8, " cast2 , c1/1f , rep ( ( k , p ) x2 ) to last 2 , ssk ", 9);
        due.row(3, "k,p,sl ", 3);
        due.row(3, " k,p,sl", 3);
    }

    /** Each place of the text gets one blank: either it stays right, or it goes wrong just there. */
    @Says(promise = 4, words = BLANKS)
    static void eachPlaceMayHaveOneOrNot(Due due) {
        String text = "cast2,k2,(k2tog)x12,rep(c1/1f)tolast10,bind10";
        String free = "b....bb.bbb....bb..bb..bb....bb.b...b.bb.....b";
        for (int place = 0; place <= text.length(); place++) {
            String blank = text.substring(0, place) + " " + text.substring(place);
            int answer = Bench.round(40).work(blank);
            boolean isRight = answer > 0 || answer <= -3000;
            due.same("right is '" + blank + "'", isRight ? 1 : 0, free.charAt(place) == 'b' ? 1 : 0);
        }
    }

    @Says(promise = 4, words = BLANKS)
    static void notWithinNames(Due due) {
        due.row(4, "s l", -1001);
        due.row(4, "y o", -1001);
        due.row(4, "bi nd", -1002);
        due.row(4, "cas t2", -1003);
        due.row(4, "k f b", -1002);
        due.row(4, "k2 tog,k2", -1003);
        due.row(4, "k2to g,k2", -1004);
        due.row(4, "ss k", -1002);
        due.row(4, "re p(k)to last 0", -1002);
        due.row(4, "rep(k)t o last 0", -1007);
        due.row(4, "rep(k)to la st 0", -1011);
    }

    @Says(promise = 4, words = BLANKS)
    static void notWithinNumbers(Due due) {
        due.row(11, "k1 1", -1003);
        due.row(11, "(k)x2 2", -1006);
        due.row(11, "(k)x1 1", -1005);
        due.row(11, "rep(k)to last 1 1,k11", -1016);
        due.row(11, "cast1 0,k11", -1006);
    }

    @Says(promise = 4, words = BLANKS)
    static void onlyBlanksAreBlanks(Due due) {
        for (String sign : new String[] {"\t", "\n", "\r", "\u0000", "\u00a0", "_"}) {
            due.row(2, sign + "k2", -1000);
            due.row(2, "k2" + sign, -1002);
            due.row(2, "k," + sign + "k", -1002);
        }
    }

    @Says(promise = 4, words = ROW)
    static void noItemIsTooFew(Due due) {
        due.row(2, "", -1000);
        due.row(2, " ", -1001);
        due.row(2, "     ", -1005);
        due.row(2, "()x2", -1001);
        due.row(2, "( )x2", -1002);
        due.row(2, "rep()to last 0", -1004);
    }

    @Says(promise = 4, words = ROW)
    static void oneItemIsEnough(Due due) {
        due.row(1, "k", 1);
        due.row(2, "(k)x2", 2);
        due.row(2, "rep(k)to last 0", 2);
        due.row(2, "c1/1f", 2);
    }

    @Says(promise = 4, words = ROW)
    static void aTextMayBeFullOfItems(Due due) {
        due.row(40, "k,".repeat(39) + "k", 40);
        due.row(40, "k,".repeat(99) + "k", -4080);
        due.row(40, "k,".repeat(100), -1200);
        due.row(33, "yo,".repeat(33) + "k,".repeat(32) + "k", -8164);
        due.row(20, "((((k)x2)x2)x2)x2,".repeat(11), -1198);
    }

    @Says(promise = 4, words = ROW)
    static void oneCommaStandsBetweenTwo(Due due) {
        due.row(2, ",k2", -1000);
        due.row(2, "k2,", -1003);
        due.row(2, "k2, ", -1004);
        due.row(2, "k,,k", -1002);
        due.row(2, "k, ,k", -1003);
        due.row(2, "k k", -1002);
        due.row(2, "kk", -1001);
        due.row(2, "k;k", -1001);
        due.row(4, "(k,)x2", -1003);
        due.row(4, "(,k)x2", -1001);
        due.row(4, "(k)x2(k)x2", -1005);
        due.row(4, "(k)x2 k2", -1006);
        due.row(4, "rep(k)to last 2 k2", -1016);
    }

    @Says(promise = 4, words = NAME)
    static void withoutCountThereIsOne(Due due) {
        due.row(3, "k,p,sl", 3);
        due.row(1, "yo,k", 2);
        due.row(2, "bind,k", 1);
    }

    @Says(promise = 4, words = NAME)
    static void oneIsTheLeastCount(Due due) {
        due.row(3, "k1,p1,sl1", 3);
        due.row(1, "yo1,k1", 2);
        due.row(2, "bind1,k1", 1);
        due.row(1, "cast1,k1", 2);
        for (String name : COUNTED) {
            due.row(3, name + "0", -1000 - name.length());
            due.row(3, name + "-1", -1000 - name.length());
        }
        due.row(1, "cast0,k", -1004);
    }

    /** 99 of them are seen by the loops that they would make, or by the fault of too few. */
    @Says(promise = 4, words = NAME)
    static void ninetyNineIsTheGreatestCount(Due due) {
        due.row(40, "k99", -4000);
        due.row(40, "p99", -4000);
        due.row(40, "sl99", -4000);
        due.row(40, "bind99", -5000);
        due.row(1, "cast99,k", -8008);
        due.row(1, "yo99,k", -8006);
        due.row(1, "k,yo99,yo99,yo99,yo99,yo99,yo99,yo4", -8035);
        due.row(1, "k,yo99,yo99,yo99,yo99,yo99,yo99,yo5", -6032);
        due.row(1, "cast99,yo99,yo99,yo99,yo99,yo99,k,yo4", -8037);
        due.row(1, "cast99,yo99,yo99,yo99,yo99,yo99,k,yo5", -6034);
    }

    @Says(promise = 4, words = NAME)
    static void aHundredIsTooGreat(Due due) {
        for (String name : COUNTED) {
            due.row(3, name + "100", -1000 - name.length() - 2);
            due.row(3, name + "999", -1000 - name.length() - 2);
        }
        due.row(1, "cast100,k", -1006);
    }

    @Says(promise = 4, words = NAME)
    static void thereAreJustSoManyOfThem(Due due) {
        for (int count = 1; count <= 40; count++) {
            due.row(count, "k" + count, count);
            due.row(count, "p" + count, count);
            due.row(count, "sl" + count, count);
            if (count < 40) {
                due.row(count + 1, "bind" + count + ",k", 1);
                due.row(1, "k,yo" + count, count + 1);
                due.row(1, "cast" + count + ",k", count + 1);
            }
        }
        // The loop cast on, that of k, and five times 99: so 103 more are the most.
        String before = "k,yo99,yo99,yo99,yo99,yo99,";
        for (int count = 5; count <= 98; count++) {
            String first = before + "yo" + count + ",";
            due.row(1, first + "yo" + (103 - count), -8000 - first.length() - (103 - count > 9 ? 4 : 3));
            due.row(1, first + "yo" + (104 - count), -6000 - first.length());
        }
    }

    @Says(promise = 4, words = NAME)
    static void theCountStandsRightBehindIt(Due due) {
        for (String name : COUNTED) {
            due.row(3, name + " 2", -1000 - name.length() - 1);
        }
        due.row(2, "cast 3,k2", -1004);
        due.row(3, "3k", -1000);
        due.row(3, "k(2)", -1001);
    }

    @Says(promise = 4, words = NAME)
    static void castHasToHaveACount(Due due) {
        due.row(2, "cast,k2", -1004);
        due.row(2, "cast", -1004);
        due.row(2, "cast ", -1004);
        due.row(2, "castk", -1004);
        due.row(2, "cast1,k2", 3);
        due.row(2, "cast10,k2", 12);
    }

    @Says(promise = 4, words = SINGLE)
    static void theseHaveNoCount(Due due) {
        due.row(8, "k2tog,ssk,k3tog,kfb", 5);
        due.row(4, "k2tog2", -1005);
        due.row(4, "k2tog1", -1005);
        due.row(4, "ssk2", -1003);
        due.row(4, "k3tog1", -1005);
        due.row(4, "kfb4", -1003);
    }

    @Says(promise = 4, words = SINGLE)
    static void thereAreNoOthers(Due due) {
        due.row(4, "k1tog,k3", -1002);
        due.row(4, "k4tog", -1002);
        due.row(4, "p2tog,k2", -1002);
        due.row(4, "pfb", -1001);
        due.row(4, "K4", -1000);
        due.row(4, "knit4", -1001);
    }

    @Says(promise = 4, words = CABLE)
    static void oneAndFiveAreTheEdges(Due due) {
        due.row(2, "c1/1f", 2);
        due.row(2, "c1/1b", 2);
        due.row(6, "c1/5f", 6);
        due.row(6, "c5/1b", 6);
        due.row(10, "c5/5f", 10);
        due.row(10, "c5/5b", 10);
    }

    @Says(promise = 4, words = CABLE)
    static void zeroAndSixAreBeyond(Due due) {
        due.row(8, "c0/1f", -1001);
        due.row(8, "c6/1f", -1001);
        due.row(8, "c9/1f", -1001);
        due.row(8, "c1/0f", -1003);
        due.row(8, "c1/6f", -1003);
        due.row(8, "c1/9b", -1003);
        due.row(8, "c01/1f", -1001);
        due.row(8, "c11/1f", -1002);
        due.row(8, "c1/11f", -1004);
    }

    @Says(promise = 4, words = CABLE)
    static void everyPartMustStand(Due due) {
        due.row(2, "c", -1001);
        due.row(2, "c1", -1002);
        due.row(2, "c1/", -1003);
        due.row(2, "c1/1", -1004);
        due.row(2, "c/1f", -1001);
        due.row(2, "c1f", -1002);
        due.row(2, "c1/f", -1003);
        due.row(2, "c1/1,", -1004);
        due.row(2, "c1/1g", -1004);
        due.row(2, "c1/1F", -1004);
        due.row(2, "c1-1f", -1002);
        due.row(2, "c1/1f2", -1005);
        due.row(2, "c1/1fb", -1005);
    }

    @Says(promise = 4, words = CABLE)
    static void nothingStandsBetween(Due due) {
        due.row(2, "c 1/1f", -1001);
        due.row(2, "c1 /1f", -1002);
        due.row(2, "c1/ 1f", -1003);
        due.row(2, "c1/1 f", -1004);
        due.row(2, "c1/1f ", 2);
    }

    @Says(promise = 4, words = GROUP)
    static void twoIsTheLeastCountOfAGroup(Due due) {
        due.row(2, "(k)x2", 2);
        due.row(2, "(k)x0", -1004);
        due.row(2, "(k)x1", -1005);
        due.row(2, "(k)x1 ", -1005);
        due.row(2, "(k)x1,k", -1005);
        due.row(4, "((k)x1)x2", -1006);
        due.row(10, "(k)x10", 10);
        due.row(19, "(k)x19", 19);
    }

    @Says(promise = 4, words = GROUP)
    static void ninetyNineIsTheGreatestCountOfAGroup(Due due) {
        due.row(1, "(yo)x99,k", -8009);
        due.row(1, "k,(yo)x99,(yo)x99,(yo)x99,(yo)x99,(yo)x99,(yo)x99,yo4", -8053);
        due.row(1, "k,(yo)x99,(yo)x99,(yo)x99,(yo)x99,(yo)x99,(yo)x99,yo5", -6050);
        due.row(1, "((((yo)x99)x99)x99)x99,k", -6004);
        due.row(40, "((((k)x99)x99)x99)x99", -4004);
    }

    @Says(promise = 4, words = GROUP)
    static void aHundredIsTooGreatForAGroup(Due due) {
        due.row(2, "(k)x100", -1006);
        due.row(2, "(k)x990", -1006);
    }

    @Says(promise = 4, words = GROUP)
    static void itsRowIsWorkedJustSoOften(Due due) {
        for (int count = 2; count <= 40; count++) {
            due.row(count, "(k)x" + count, count);
            due.row(count, "(bind,yo)x" + count, count);
        }
        due.row(36, "((k,p)x3)x6", 36);
        due.row(16, "((((k)x2)x2)x2)x2", 16);
        due.row(24, "(k,(p)x2,(sl,k2tog)x3)x2", 18);
    }

    @Says(promise = 4, words = GROUP)
    static void xStandsRightBeforeTheCount(Due due) {
        due.row(2, "(k) x2", 2);
        due.row(2, "(k)   x2", 2);
        due.row(2, "(k)x 2", -1004);
        due.row(2, "(k)", -1003);
        due.row(2, "(k) ", -1004);
        due.row(2, "(k)2", -1003);
        due.row(2, "(k)x", -1004);
        due.row(2, "(k)X2", -1003);
        due.row(2, "(k),k", -1003);
        due.row(4, "(k)x2x2", -1005);
        due.row(4, "(k)tolast0", -1003);
    }

    @Says(promise = 4, words = GROUP)
    static void bracketsComeInPairs(Due due) {
        due.row(2, "(", -1001);
        due.row(2, "(k", -1002);
        due.row(2, "(k,p", -1004);
        due.row(2, "(k2 ", -1004);
        due.row(2, "(k)x2)", -1005);
        due.row(2, "k2)", -1002);
        due.row(2, ")k2", -1000);
        due.row(2, "((k)x2", -1006);
        due.row(2, "[k]x2", -1000);
        due.row(2, "rep(k", -1005);
    }

    @Says(promise = 4, words = REPEAT)
    static void zeroIsTheLeastNumber(Due due) {
        due.row(4, "rep(k)to last 0", 4);
        due.row(4, "rep(k)to last 1,p", 4);
        due.row(4, "rep(k)to last -1", -1014);
    }

    @Says(promise = 4, words = REPEAT)
    static void ninetyNineIsTheGreatestNumber(Due due) {
        due.row(40, "rep(k)to last 40,k40", 40);
        due.row(40, "rep(k)to last 41", -3000);
        due.row(40, "rep(k)to last 99", -3000);
        due.row(40, "rep(k)to last 100", -1016);
        due.row(40, "rep(k)to last 400", -1016);
    }

    @Says(promise = 4, words = REPEAT)
    static void justSoManyLoopsStay(Due due) {
        for (int stay = 1; stay <= 40; stay++) {
            due.row(40, "rep(k)to last " + stay + ",bind" + (stay == 40 ? "39,k" : String.valueOf(stay)),
                stay == 40 ? 1 : 40 - stay);
        }
    }

    @Says(promise = 4, words = REPEAT)
    static void everyPartOfARepeatMustStand(Due due) {
        due.row(2, "r", -1001);
        due.row(2, "rep", -1003);
        due.row(2, "rep k", -1004);
        due.row(2, "rep2(k)to last 0", -1003);
        due.row(2, "rep(k)", -1006);
        due.row(2, "rep(k)x2", -1006);
        due.row(2, "rep(k)t", -1007);
        due.row(2, "rep(k)to", -1008);
        due.row(2, "rep(k)to 0", -1009);
        due.row(2, "rep(k)last 0", -1006);
        due.row(2, "rep(k)to las", -1012);
        due.row(2, "rep(k)to last", -1013);
        due.row(2, "rep(k)to last ", -1014);
        due.row(2, "rep(k)to last,k", -1013);
        due.row(2, "rep(k)to last k", -1014);
    }

    @Says(promise = 4, words = REPEAT)
    static void blanksMayStandBetweenAnyTwo(Due due) {
        due.row(4, "rep (k)tolast0", 4);
        due.row(4, "rep( k)tolast0", 4);
        due.row(4, "rep(k )tolast0", 4);
        due.row(4, "rep(k) tolast0", 4);
        due.row(4, "rep(k)to last0", 4);
        due.row(4, "rep(k)tolast 0", 4);
        due.row(4, "rep(k)tolast0 ", 4);
        due.row(4, "rep  (  k  )  to  last  0  ", 4);
    }

    @Says(promise = 4, words = STANDS)
    static void aRepeatStandsInNoBrackets(Due due) {
        due.row(4, "(rep(k)to last 0)x2", -1001);
        due.row(4, "(k,rep(k)to last 0)x2", -1003);
        due.row(4, "rep(rep(k)to last 0)to last 0", -1004);
        due.row(4, "rep(k,rep(k)to last 1)to last 0", -1006);
        due.row(4, "((k)x2,rep", -1007);
    }

    @Says(promise = 4, words = STANDS)
    static void repeatsStandOneBehindTheOther(Due due) {
        due.row(9, "rep(k)to last 4,rep(p)to last 2,rep(sl)to last 0", 9);
        due.row(9, "(k)x2,rep(p)to last 0", 9);
        due.row(9, "cast1,rep(p)to last 0", 10);
    }

    @Says(promise = 4, words = STANDS)
    static void castStandsAsTheFirstItem(Due due) {
        due.row(2, "cast3,k2", 5);
        due.row(2, "  cast3,k2", 5);
        due.row(2, "cast3,(k)x2", 5);
    }

    /** A c may still begin a cable there, but for its a. */
    @Says(promise = 4, words = STANDS)
    static void castStandsNowhereElse(Due due) {
        due.row(2, "k2,cast1", -1004);
        due.row(2, "cast1,cast1,k2", -1007);
        due.row(2, "(k)x2,cast1", -1007);
        due.row(2, "(cast1,k)x2", -1002);
        due.row(2, "((cast1,k)x2)x2", -1003);
        due.row(2, "rep(cast1,k)to last 0", -1005);
        due.row(2, "rep(k)to last 0,cast1", -1017);
    }

    @Says(promise = 4, words = ZERO)
    static void noZeroStandsInFront(Due due) {
        due.row(2, "k02", -1001);
        due.row(2, "k00", -1001);
        due.row(2, "yo01,k2", -1002);
        due.row(2, "cast01,k2", -1004);
        due.row(2, "(k)x02", -1004);
        due.row(2, "rep(k)to last 00", -1015);
        due.row(2, "rep(k)to last 01,k", -1015);
    }

    @Says(promise = 4, words = ZERO)
    static void aZeroMayStandBehind(Due due) {
        due.row(20, "k10,(p)x10", 20);
        due.row(20, "rep(k)to last 10,p10", 20);
        due.row(2, "rep(k)to last 0", 2);
    }

    @Says(promise = 4, words = LONG)
    static void aBegunNameIsNoShorterOne(Due due) {
        due.row(2, "k2", 2);
        due.row(2, "k2t", -1003);
        due.row(2, "k2to", -1004);
        due.row(2, "k2to,k", -1004);
        due.row(2, "k2tog", 1);
        due.row(3, "k3", 3);
        due.row(3, "k3t", -1003);
        due.row(3, "k3to,k", -1004);
        due.row(3, "k3tog", 1);
        due.row(2, "kf", -1002);
        due.row(2, "kf,k", -1002);
        due.row(2, "ss", -1002);
        due.row(2, "ss,k", -1002);
        due.row(2, "s", -1001);
        due.row(2, "b", -1001);
        due.row(2, "bin", -1003);
        due.row(2, "y,k2", -1001);
    }

    @Says(promise = 4, words = LONG)
    static void onlyTwoAndThreeBeginLongerNames(Due due) {
        due.row(40, "k22tog", -1003);
        due.row(40, "k32tog", -1003);
        due.row(40, "k23tog", -1003);
        due.row(40, "k4t", -1002);
        due.row(40, "k20t", -1003);
        due.row(23, "k23", 23);
        due.row(2, "p2tog", -1002);
        due.row(2, "k2togx", -1005);
    }
}
