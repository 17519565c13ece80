/** A new object: one loop cast on, flat. */
public final class Promise01NewObjectTest {
    public static void main(String[] args) {
        Due due = new Due();
        KnitBench bench = new KnitBench();
        due.same("the needle", Due.needle(bench), "0");
        due.same("rows()", bench.rows(), 0);
        due.same("total(0)", bench.total(0), 1);
        due.same("loop(0, 0)", bench.loop(0, 0), 0);
        due.same("loop(0, 2)", bench.loop(0, 2), 0);
        due.same("out(0)", bench.out(0), -1);
        due.same("work of the empty tape", bench.work(), -1000);

        due.works(bench, "kfb", 2);
        due.same("the needle, turned", Due.needle(bench), "2 1");

        KnitBench other = new KnitBench();
        due.same("the needle of another object", Due.needle(other), "0");
        due.end();
    }
}
