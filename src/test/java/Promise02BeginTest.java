/** begin: casts on, all else is forgotten but the tape. */
public final class Promise02BeginTest {
    public static void main(String[] args) {
        Due due = new Due();
        castsOn(due);
        forgetsAllButTheTape(due);
        refuses(due);
        due.end();
    }

    private static void castsOn(Due due) {
        due.same("flat needle", Due.needle(Due.bench(3, false)), "2 1 0");
        due.same("round needle", Due.needle(Due.bench(3, true)), "0 1 2");
        due.same("least", Due.bench(1, true).total(1), 1);
        due.same("most", Due.bench(40, false).total(1), 40);
    }

    private static void forgetsAllButTheTape(Due due) {
        KnitBench bench = Due.bench(4, true);
        due.works(bench, "k,bind,p2", 3);
        bench.shorten(1);
        Due.feed(bench, "k2,");
        bench.begin(3, false);
        due.same("rows()", bench.rows(), 0);
        due.same("total(0)", bench.total(0), 3);
        due.same("total(3)", bench.total(3), 0);
        due.same("out(0)", bench.out(0), -1);
        due.raises("row(1, 0)", IllegalArgumentException.class, () -> bench.row(1, 0));
        due.raises("loop(3, 0)", IllegalArgumentException.class, () -> bench.loop(3, 0));
        due.same("loop(0, 1)", bench.loop(0, 1), 0);
        due.works(bench, "p", 3);
        due.same("the new row", Due.chart(bench, 1), "0 0 1");
    }

    private static void refuses(Due due) {
        KnitBench bench = Due.bench(2, true);
        due.works(bench, "k,p", 2);
        bench.shorten(1);
        int[] wrong = {0, -1, 41, Integer.MIN_VALUE, Integer.MAX_VALUE};
        for (int loops : wrong) {
            due.raises("begin(" + loops + ")", IllegalArgumentException.class, () -> bench.begin(loops, false));
        }
        due.same("rows() after a refused begin", bench.rows(), 1);
        due.same("needle after a refused begin", Due.needle(bench), "2 3");
        due.same("out after a refused begin", Due.out(bench), "k,p");
    }
}
