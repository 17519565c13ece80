/** shorten: the fewest words, and of as few the first. */
public final class Promise11ShortenTest {
    public static void main(String[] args) {
        Due due = new Due();
        singleStitches(due);
        groups(due);
        ties(due);
        groupsWithinGroups(due);
        asWorkedNotAsSeen(due);
        refuses(due);
        due.end();
    }

    private static void check(Due due, int loops, String text, int words, String want) {
        KnitBench bench = Due.bench(loops, false);
        due.same("sign of work of '" + text + "'", Integer.signum(Due.work(bench, text)), 1);
        due.same("words of '" + text + "'", bench.shorten(1), words);
        due.same("shortest of '" + text + "'", Due.out(bench), want);
    }

    private static void singleStitches(Due due) {
        check(due, 1, " k1 ", 1, "k");
        check(due, 11, "cast1,k,p,sl,k2tog,ssk,k3tog,kfb", 8, "cast1,k,p,sl,k2tog,ssk,k3tog,kfb");
        check(due, 2, "yo,bind,k", 3, "yo,bind,k");
        check(due, 7, "c1/1f,c1/1b,c2/1f", 3, "c1/1f,c1/1b,c2/1f");
        check(due, 10, "c2/3f,c2/3f", 2, "(c2/3f)x2");
        check(due, 10, "c2/3f,c2/3b", 2, "c2/3f,c2/3b");
        check(due, 6, "c1/2f,c2/1f", 2, "c1/2f,c2/1f");
    }

    private static void groups(Due due) {
        check(due, 2, "k2", 2, "(k)x2");
        check(due, 40, "rep(k)to last 0", 2, "(k)x40");
        check(due, 8, "rep(k,p)to last 0", 3, "(k,p)x4");
        check(due, 9, "p9", 2, "(p)x9");
        check(due, 10, "p10", 2, "(p)x10");
        check(due, 2, "cast12,k2", 4, "(cast1)x12,(k)x2");
        check(due, 18, "(k3,p3)x2,(k,p)x3", 8, "((k)x3,(p)x3)x2,(k,p)x3");
        check(due, 40, "(yo,bind)x40", 3, "(yo,bind)x40");
        check(due, 40, "yo40,bind40", 4, "(yo)x40,(bind)x40");
    }

    /** Groups come before splits, shorter first parts before longer ones. */
    private static void ties(Due due) {
        check(due, 3, "k,p,k", 3, "k,p,k");
        check(due, 4, "k2,p2", 4, "k,k,(p)x2");
        check(due, 5, "k,p,k,p,k", 4, "k,(p,k)x2");
        check(due, 4, "k,k,k,k", 2, "(k)x4");
        check(due, 4, "k,p,p,p", 3, "k,(p)x3");
        check(due, 4, "k,p,k,p", 3, "(k,p)x2");
        check(due, 13, "(k,p)x6,k", 4, "k,(p,k)x6");
    }

    /** Two stitches alike would be told as a group, were they not within four already. */
    private static void groupsWithinGroups(Due due) {
        check(due, 27, "(((bind,yo2)x2,p)x2,bind)x2,p13", 10, "(((bind,(yo)x2)x2,p)x2,bind)x2,(p)x13");
        check(due, 30, "((((bind,yo2)x2,p)x2,bind)x2,bind)x2", 10, "((((bind,yo,yo)x2,p)x2,bind)x2,bind)x2");
    }

    private static void asWorkedNotAsSeen(Due due) {
        KnitBench bench = Due.bench(3, false);
        due.works(bench, "k3", 3);
        due.works(bench, "k,p2", 3);
        due.same("shorten(2)", bench.shorten(2), 3);
        due.same("shortest of a back row", Due.out(bench), "k,(p)x2");
        due.same("shorten(1)", bench.shorten(1), 2);
        due.same("shortest of a front row", Due.out(bench), "(k)x3");
    }

    private static void refuses(Due due) {
        KnitBench bench = Due.bench(2, true);
        due.works(bench, "k,p", 2);
        due.same("shorten(1)", bench.shorten(1), 2);
        int[] wrong = {0, -1, 2, Integer.MAX_VALUE, Integer.MIN_VALUE};
        for (int row : wrong) {
            due.raises("shorten(" + row + ")", IllegalArgumentException.class, () -> bench.shorten(row));
        }
        due.same("out behind refused ones", Due.out(bench), "k,p");
    }
}
