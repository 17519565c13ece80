/** total: loops made, live, taken by others than bind, bound. */
public final class Promise14TotalTest {
    public static void main(String[] args) {
        Due due = new Due();
        KnitBench bench = Due.bench(5, false);
        same(due, bench, new int[] {5, 5, 0, 0});
        due.works(bench, "cast2,bind2,k2tog,yo,k", 5);
        same(due, bench, new int[] {10, 5, 3, 2});
        due.works(bench, "bind,c1/2b,kfb", 5);
        same(due, bench, new int[] {15, 5, 7, 3});
        due.works(bench, "bind5", -5000);
        same(due, bench, new int[] {15, 5, 7, 3});
        bench.unravel(1);
        same(due, bench, new int[] {10, 5, 3, 2});
        bench.begin(7, true);
        same(due, bench, new int[] {7, 7, 0, 0});
        int[] wrong = {-1, 4, Integer.MAX_VALUE, Integer.MIN_VALUE};
        for (int what : wrong) {
            due.raises("total(" + what + ")", IllegalArgumentException.class, () -> bench.total(what));
        }
        due.end();
    }

    private static void same(Due due, KnitBench bench, int[] want) {
        for (int what = 0; what < want.length; what++) {
            due.same("total(" + what + ")", bench.total(what), want[what]);
        }
    }
}
