/** chart: a row's stitches as seen from the front, from the right. */
public final class Promise09ChartTest {
    private static final String ALL = "k,p,sl,k2tog,ssk,k3tog,kfb,yo,bind,c2/3f,c5/1b";

    public static void main(String[] args) {
        Due due = new Due();
        KnitBench flat = Due.bench(23, false);
        due.works(flat, "cast1," + ALL, 21);
        due.same("front row", Due.chart(flat, 1), "9 0 1 2 3 4 5 6 7 8 240 521");
        due.works(flat, "cast2,k2,p3,c1/2b,c4/5f,ssk,k2", 22);
        due.same("back row", Due.chart(flat, 2), "1 1 4 460 131 0 0 0 1 1 9 9");
        due.works(flat, "k,p21", 22);
        due.same("chart(3, 0)", flat.chart(3, 0), 0);
        due.same("chart(3, 21)", flat.chart(3, 21), 1);

        KnitBench round = Due.bench(2, true);
        due.works(round, "k,p", 2);
        due.works(round, "p,k", 2);
        due.same("round row 2", Due.chart(round, 2), "1 0");
        refuses(due, round);
        due.end();
    }

    private static void refuses(Due due, KnitBench bench) {
        int[] rows = {0, -1, 3, Integer.MAX_VALUE, Integer.MIN_VALUE};
        for (int row : rows) {
            due.raises("chart(" + row + ", 0)", IllegalArgumentException.class, () -> bench.chart(row, 0));
        }
        int[] stitches = {-1, 2, Integer.MAX_VALUE, Integer.MIN_VALUE};
        for (int c : stitches) {
            due.raises("chart(1, " + c + ")", IndexOutOfBoundsException.class, () -> bench.chart(1, c));
        }
        due.raises("chart(0, -1)", IllegalArgumentException.class, () -> bench.chart(0, -1));
    }
}
