/** feed: bytes on the tape, the highest of the lowest n first, 200 at most. */
public final class Promise03FeedTest {
    public static void main(String[] args) {
        Due due = new Due();
        takesTheLowestBytes(due);
        isUsedUpByWork(due);
        refusesWrongNumbers(due);
        refusesMoreThanTwoHundred(due);
        due.end();
    }

    private static void takesTheLowestBytes(Due due) {
        KnitBench bench = Due.bench(2, true);
        long packed = ((long) 'z' << 24) | ('k' << 16) | (',' << 8) | 'p';
        due.same("feed of three", bench.feed(packed, 3), 3);
        due.same("work", bench.work(), 2);
        due.same("chart", Due.chart(bench, 1), "0 1");
        due.same("feed of eight", bench.feed(0x6B2C202020202020L, 8), 8);
        due.same("feed of one more", bench.feed('k', 1), 9);
        due.same("work of eight and one", bench.work(), 2);
        due.same("feed of bytes above 127", bench.feed(-1L, 8), 8);
        due.same("work of them", bench.work(), -1000);
    }

    private static void isUsedUpByWork(Due due) {
        KnitBench bench = Due.bench(1, true);
        bench.feed('k', 1);
        bench.work();
        due.same("feed behind a row", bench.feed('x', 1), 1);
        bench.work();
        due.same("feed behind a fault", bench.feed('k', 1), 1);
    }

    private static void refusesWrongNumbers(Due due) {
        KnitBench bench = new KnitBench();
        int[] wrong = {0, 9, -1, Integer.MIN_VALUE, Integer.MAX_VALUE};
        for (int n : wrong) {
            due.raises("feed(0, " + n + ")", IllegalArgumentException.class, () -> bench.feed(0, n));
        }
        due.same("feed behind refused ones", bench.feed('k', 1), 1);
    }

    private static void refusesMoreThanTwoHundred(Due due) {
        KnitBench bench = new KnitBench();
        Due.feed(bench, "k" + " ".repeat(194));
        due.raises("feed to 201", IllegalStateException.class, () -> bench.feed(0, 6));
        due.raises("wrong n, nearly full", IllegalArgumentException.class, () -> bench.feed(0, 9));
        due.same("feed to 200", bench.feed(0x2020202020L, 5), 200);
        due.raises("feed to 201, full", IllegalStateException.class, () -> bench.feed(' ', 1));
        due.raises("wrong n, full", IllegalArgumentException.class, () -> bench.feed(0, 0));
        due.same("work of 200 bytes", bench.work(), 1);
    }
}
