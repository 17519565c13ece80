/** row: numbers of a row. */
public final class Promise10RowTest {
    public static void main(String[] args) {
        Due due = new Due();
        KnitBench bench = Due.bench(20, false);
        due.works(bench, "cast2,c2/3f,c5/1b,bind2,kfb,k2tog,k3tog,yo,sl", 19);
        same(due, bench, 1, new int[] {11, 11, 20, 19, 2});
        due.works(bench, "k19", 19);
        same(due, bench, 2, new int[] {19, 0, 19, 19, 0});
        due.works(bench, "(yo,bind)x17,bind2", 17);
        same(due, bench, 3, new int[] {36, 0, 19, 17, 19});
        due.works(bench, "c4/3b,k,c1/1f,p3,c2/2f", 17);
        same(due, bench, 4, new int[] {7, 17, 17, 17, 0});
        int[][] wrong = {{0, 0}, {-1, 0}, {5, 0}, {Integer.MAX_VALUE, 0}, {Integer.MIN_VALUE, 0}, {1, -1}, {1, 5},
            {1, Integer.MAX_VALUE}, {1, Integer.MIN_VALUE}};
        for (int[] w : wrong) {
            due.raises("row(" + w[0] + ", " + w[1] + ")", IllegalArgumentException.class,
                () -> bench.row(w[0], w[1]));
        }
        due.end();
    }

    private static void same(Due due, KnitBench bench, int row, int[] want) {
        for (int what = 0; what < want.length; what++) {
            due.same("row(" + row + ", " + what + ")", bench.row(row, what), want[what]);
        }
    }
}
