/** work: the stitches, the grammar, each fault with its place, and their order. */
public final class Promise04WorkTest {
    private static final String DEEP = "((((k)x2)x2)x2)x2";

    public static void main(String[] args) {
        Due due = new Due();
        stitches(due);
        blanks(due);
        counts(due);
        names(due);
        cast(due);
        cables(due);
        brackets(due);
        repeats(due);
        faultsOfTheWork(due);
        faultsOfTheRow(due);
        textBeforeWork(due);
        due.end();
    }

    private static void check(Due due, int loops, String text, int want) {
        due.works(Due.bench(loops, false), text, want);
    }

    private static void stitches(Due due) {
        check(due, 3, "k,p,sl", 3);
        check(due, 4, "k2tog,ssk", 2);
        check(due, 3, "k3tog", 1);
        check(due, 1, "kfb", 2);
        check(due, 1, "yo,k,yo3", 5);
        check(due, 3, "bind2,k", 1);
        check(due, 1, "cast2,k", 3);
        check(due, 3, "c1/2f", 3);
        check(due, 10, "c5/5b", 10);
        check(due, 8, "(k,p)x2,rep(ssk)to last 0", 6);
    }

    private static void blanks(Due due) {
        check(due, 4, "  k2  ,  ( p )  x2  ", 4);
        check(due, 4, "rep(k)tolast0", 4);
        check(due, 4, " rep ( k , p ) to  last  2 , k2tog ", 3);
        check(due, 4, "", -1000);
        check(due, 4, "   ", -1003);
        check(due, 4, "k 4", -1002);
        check(due, 4, "k2 tog,k2", -1003);
        check(due, 4, "k f b", -1002);
        check(due, 4, "(k)x 4", -1004);
        check(due, 4, "re p(k)to last 0", -1002);
        check(due, 4, "rep(k)to la st 0", -1011);
        check(due, 4, "rep(k)to last 1 0", -1016);
        check(due, 4, "\tk4", -1000);
    }

    private static void counts(Due due) {
        check(due, 40, "k40", 40);
        check(due, 9, "sl9", 9);
        check(due, 9, "k1,p1,yo1,sl7", 10);
        check(due, 9, "k0", -1001);
        check(due, 9, "k01", -1001);
        check(due, 9, "k99", -4000);
        check(due, 9, "k100", -1003);
        check(due, 9, "k-1", -1001);
        check(due, 9, "ssk2", -1003);
        check(due, 9, "k2tog2", -1005);
        check(due, 9, "k3tog3", -1005);
        check(due, 9, "kfb1", -1003);
        check(due, 9, "9k", -1000);
    }

    private static void names(Due due) {
        check(due, 2, "k2", 2);
        check(due, 2, "k2t", -1003);
        check(due, 2, "k2to", -1004);
        check(due, 2, "k2tog", 1);
        check(due, 2, "k2togx", -1005);
        check(due, 2, "k1tog", -1002);
        check(due, 2, "k22tog", -1003);
        check(due, 2, "k3to,k", -1004);
        check(due, 2, "kf", -1002);
        check(due, 2, "kk", -1001);
        check(due, 2, "s", -1001);
        check(due, 2, "ss,k", -1002);
        check(due, 2, "yk", -1001);
        check(due, 2, "bin", -1003);
        check(due, 2, "K2", -1000);
        check(due, 2, "k,,k", -1002);
        check(due, 2, ",k2", -1000);
        check(due, 2, "k2,", -1003);
        check(due, 2, "k2;", -1002);
        check(due, 2, "k2\u00ff", -1002);
    }

    private static void cast(Due due) {
        check(due, 2, " cast3,k2", 5);
        check(due, 2, "cast", -1004);
        check(due, 2, "cast,k2", -1004);
        check(due, 2, "cast0,k2", -1004);
        check(due, 2, "cast 3,k2", -1004);
        check(due, 2, "k2,cast1", -1004);
        check(due, 2, "cast1,cast1", -1007);
        check(due, 2, "(cast1,k)x2", -1002);
        check(due, 2, "rep(cast1,k)to last 0", -1005);
        check(due, 2, "ca", -1002);
    }

    private static void cables(Due due) {
        check(due, 2, "c1/1f", 2);
        check(due, 2, "c0/1f", -1001);
        check(due, 2, "c6/1f", -1001);
        check(due, 2, "c1/0f", -1003);
        check(due, 2, "c1/6f", -1003);
        check(due, 2, "c1-1f", -1002);
        check(due, 2, "c1/1", -1004);
        check(due, 2, "c1/1g", -1004);
        check(due, 2, "c1/1f2", -1005);
        check(due, 2, "c 1/1f", -1001);
        check(due, 2, "c11/1f", -1002);
        check(due, 2, "c", -1001);
    }

    private static void brackets(Due due) {
        check(due, 16, DEEP, 16);
        check(due, 16, "(" + DEEP + ")x2", -2004);
        check(due, 16, "( ( ( ( (", -2008);
        check(due, 16, "((((k(", -1005);
        check(due, 8, "rep((((k)x2)x2)x2)to last 0", 8);
        check(due, 16, "rep(((((k)x2)x2)x2)x2)to last 0", -2007);
        check(due, 4, "()", -1001);
        check(due, 4, "(k", -1002);
        check(due, 4, "(k,", -1003);
        check(due, 4, "(k,)x2", -1003);
        check(due, 4, "k4)", -1002);
        check(due, 4, "(k)", -1003);
        check(due, 4, "(k)4", -1003);
        check(due, 4, "(k)x", -1004);
        check(due, 4, "(k)x0", -1004);
        check(due, 4, "(k)x1", -1005);
        check(due, 4, "(k)x1 ", -1005);
        check(due, 11, "(k)x11", 11);
        check(due, 40, "(yo,bind)x40", 40);
        check(due, 4, "(k)x100", -1006);
        check(due, 4, "(k)x4k", -1005);
        check(due, 4, "(k)tolast0", -1003);
    }

    private static void repeats(Due due) {
        check(due, 12, "rep(k)to last 11,p11", 12);
        check(due, 5, "rep(k2)to last 5,k5", 5);
        check(due, 7, "rep(k,rep(k)to last 1)to last 0", -1006);
        check(due, 7, "(rep(k)to last 1)x2", -1001);
        check(due, 7, "rep(k)x2", -1006);
        check(due, 7, "rep", -1003);
        check(due, 7, "rep k", -1004);
        check(due, 7, "rep(k)to", -1008);
        check(due, 7, "rep(k)to last", -1013);
        check(due, 7, "rep(k)to last 00", -1015);
        check(due, 7, "rep(k)to last 07", -1015);
        check(due, 7, "rep(k)to last 100", -1016);
        check(due, 7, "rep(k)to last 99", -3000);
        check(due, 7, "k2, rep(k2)to last 0", -3004);
        check(due, 7, "k7,rep(yo)to last 0", -3003);
        check(due, 7, "k7,rep(k)to last 0", 7);
        check(due, 7, "rep(yo,(k2tog)x2)to last 3,rep(p)to last 0", 6);
        check(due, 7, "k2,rep(((((k", -2010);
        // Takes far more than an int holds: 42 * 99 * 99 * 99 * 99, which would wrap round.
        String many = "k99,".repeat(41) + "k99";
        check(due, 7, "rep((((" + many + ")x99)x99)x99)to last 0", -3000);
        check(due, 7, "k7,rep((((" + many + ")x99)x99)x99)tolast0", 7);
    }

    private static void faultsOfTheWork(Due due) {
        check(due, 3, "k2, k2tog", -4004);
        check(due, 3, "((k)x2)x2", -4002);
        check(due, 3, "k,c1/1f,sl", -4008);
        check(due, 3, "c2/2b", -4000);
        check(due, 3, "bind4", -5000);
        check(due, 3, "bind2,  bind", -5008);
        check(due, 3, "k3,bind", -4003);
        check(due, 3, "yo,bind3", 1);
        check(due, 3, "cast1,bind3", 1);
        check(due, 3, "rep(bind)to last 0", -5004);
        check(due, 3, "bind,(k2tog)x2", -4006);
        manyLoops(due);
    }

    /** 600 loops, those cast on and the dead ones too, are the most; rows taken back do not count. */
    private static void manyLoops(Due due) {
        KnitBench bench = Due.bench(40, true);
        for (int row = 1; row <= 13; row++) {
            due.works(bench, "k40", 40);
        }
        due.same("total(0)", bench.total(0), 560);
        due.works(bench, "k38,kfb,kfb", -6008);
        due.works(bench, "k39,yo,kfb", -6007);
        due.works(bench, "k39,yo,(k,yo)x2", -6008);
        due.works(bench, "k36,(yo)x5,k4", -6005);
        due.works(bench, "k36,(yo)x4,k4", -6011);
        due.works(bench, "yo2,k35,c3/2f", -6008);
        due.works(bench, "yo99,k41", -6000);
        due.works(bench, "k40", 40);
        due.works(bench, "k2tog,k", -6000);
        due.works(bench, "bind39,k", -6007);
        due.works(bench, "bind40", -5000);
        due.works(bench, "(rep", -1001);
        due.same("unravel(1)", bench.unravel(1), 13);
        due.works(bench, "(bind,yo)x20,p20", 40);
        due.works(bench, "bind40,k", -5000);
        due.works(bench, "bind38,c1/1f", -6007);
    }

    private static void faultsOfTheRow(Due due) {
        check(due, 3, "k2 ", -7003);
        check(due, 3, "yo", -7002);
        check(due, 40, "yo,k40", -8006);
        check(due, 40, "yo,k39", -7006);
        KnitBench bench = Due.bench(1, false);
        for (int row = 1; row <= 30; row++) {
            due.works(bench, "k", 1);
        }
        due.works(bench, "k", -9001);
        due.works(bench, "yo40,k", -8006);
        due.works(bench, "yo41", -7004);
        due.works(bench, "k2", -4000);
        due.works(bench, "k2,", -1003);
        due.same("rows()", bench.rows(), 30);
        bench.unravel(1);
        due.works(bench, "kfb", 2);
    }

    private static void textBeforeWork(Due due) {
        check(due, 3, "k9,x", -1003);
        check(due, 3, "rep(yo)to last 0,(((((", -2021);
        check(due, 3, "k9,((((( x", -2007);
        KnitBench bench = Due.bench(2, true);
        due.works(bench, "kfb,k2", -4004);
        due.same("needle behind a fault", Due.needle(bench), "0 1");
        due.same("total(0) behind a fault", bench.total(0), 2);
        due.same("rows() behind a fault", bench.rows(), 0);
        due.works(bench, "k,k", 2);
        due.same("needle", Due.needle(bench), "2 3");
    }
}
