/** rows: how many rows were worked and not taken back. */
public final class Promise05RowsTest {
    public static void main(String[] args) {
        Due due = new Due();
        KnitBench bench = Due.bench(2, false);
        due.same("rows() of the cast on", bench.rows(), 0);
        due.works(bench, "k2", 2);
        due.works(bench, "p2", 2);
        due.same("rows() of two", bench.rows(), 2);
        due.works(bench, "p3", -4000);
        due.same("rows() behind a fault", bench.rows(), 2);
        bench.unravel(1);
        due.same("rows() behind unravel", bench.rows(), 1);
        bench.begin(2, false);
        due.same("rows() behind begin", bench.rows(), 0);
        for (int row = 1; row <= 31; row++) {
            Due.work(bench, "k2");
        }
        due.same("most rows", bench.rows(), 30);
        due.end();
    }
}
