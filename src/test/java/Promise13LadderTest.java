/** ladder: loops from one on the needle down, from first parent to first parent. */
public final class Promise13LadderTest {
    public static void main(String[] args) {
        Due due = new Due();
        KnitBench bench = Due.bench(3, true);
        same(due, bench, new int[] {1, 1, 1});
        due.works(bench, "yo,k,k2tog", 3);
        due.works(bench, "cast1,k2tog,k", 3);
        // Loops 6 cast, 7 of (3 yo, 4), 8 of 5 of (1, 2).
        int[] want = {1, 2, 3};
        same(due, bench, want);
        due.works(bench, "c1/2f", 3);
        same(due, bench, new int[] {3, 4, 2});

        KnitBench flat = Due.bench(2, false);
        due.works(flat, "yo,k2", 3);
        same(due, flat, new int[] {2, 2, 1});
        for (int row = 2; row <= 30; row++) {
            due.works(flat, "k3", 3);
        }
        same(due, flat, new int[] {30, 31, 31});

        int[] wrong = {-1, 3, Integer.MAX_VALUE, Integer.MIN_VALUE};
        for (int i : wrong) {
            due.raises("ladder(" + i + ")", IllegalArgumentException.class, () -> flat.ladder(i));
        }
        due.end();
    }

    private static void same(Due due, KnitBench bench, int[] want) {
        for (int i = 0; i < want.length; i++) {
            due.same("ladder(" + i + ")", bench.ladder(i), want[i]);
        }
    }
}
