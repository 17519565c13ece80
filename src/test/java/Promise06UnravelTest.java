/** unravel: takes rows back, and their loops with them. */
public final class Promise06UnravelTest {
    public static void main(String[] args) {
        Due due = new Due();
        takesRowsBack(due);
        refuses(due);
        due.end();
    }

    private static void takesRowsBack(Due due) {
        KnitBench bench = Due.bench(3, false);
        due.works(bench, "k2tog,k", 2);
        due.works(bench, "bind,kfb", 2);
        due.works(bench, "yo,p2", 3);
        bench.shorten(3);
        Due.feed(bench, "k");
        due.same("unravel(0)", bench.unravel(0), 3);
        due.same("needle", Due.needle(bench), "9 8 7");
        due.same("unravel(2)", bench.unravel(2), 1);
        due.same("needle of row 1", Due.needle(bench), "4 3");
        due.same("loop(3, 1) is live again", bench.loop(3, 1), 0);
        due.same("loop(0, 1) stays dead", bench.loop(0, 1), 1);
        due.same("total(0)", bench.total(0), 5);
        due.same("total(3)", bench.total(3), 0);
        due.raises("loop(5, 0)", IllegalArgumentException.class, () -> bench.loop(5, 0));
        due.raises("chart(2, 0)", IllegalArgumentException.class, () -> bench.chart(2, 0));
        due.same("out stays", Due.out(bench), "yo,(p)x2");
        due.works(bench, ",sl", 2);
        due.same("loop(5, 3) worked anew", bench.loop(5, 3), 4);
        due.same("chart of the new row 2", Due.chart(bench, 2), "2 1");
        due.same("unravel of all", bench.unravel(2), 0);
        due.same("needle of the cast on", Due.needle(bench), "2 1 0");
    }

    private static void refuses(Due due) {
        KnitBench bench = Due.bench(2, true);
        due.works(bench, "k2", 2);
        int[] wrong = {-1, 2, Integer.MIN_VALUE, Integer.MAX_VALUE};
        for (int k : wrong) {
            due.raises("unravel(" + k + ")", IllegalArgumentException.class, () -> bench.unravel(k));
        }
        due.same("rows() behind refused ones", bench.rows(), 1);
        due.same("needle behind refused ones", Due.needle(bench), "2 3");
    }
}
