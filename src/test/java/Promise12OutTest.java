/** out: the bytes of the latest shortest text. */
public final class Promise12OutTest {
    public static void main(String[] args) {
        Due due = new Due();
        KnitBench bench = Due.bench(4, true);
        due.same("out(0) before any", bench.out(0), -1);
        due.works(bench, "k2tog,p2", 3);
        due.works(bench, "p3", 3);
        bench.shorten(1);
        String want = "k2tog,(p)x2";
        for (int i = 0; i < want.length(); i++) {
            due.same("out(" + i + ")", bench.out(i), want.charAt(i));
        }
        due.same("out behind it", bench.out(want.length()), -1);
        due.same("out far behind it", bench.out(Integer.MAX_VALUE), -1);
        bench.shorten(2);
        due.same("a shorter one", Due.out(bench), "(p)x3");
        bench.unravel(2);
        due.same("behind unravel", Due.out(bench), "(p)x3");
        due.works(bench, "k4", 4);
        due.same("behind work", Due.out(bench), "(p)x3");
        bench.begin(4, true);
        due.same("behind begin", bench.out(0), -1);
        due.raises("out(-1)", IllegalArgumentException.class, () -> bench.out(-1));
        due.raises("out of the least", IllegalArgumentException.class, () -> bench.out(Integer.MIN_VALUE));
        due.raises("out(-1) before any", IllegalArgumentException.class, () -> new KnitBench().out(-1));
        due.end();
    }
}
