/** loop: where a loop was born and died, and its parents. */
public final class Promise08LoopTest {
    public static void main(String[] args) {
        Due due = new Due();
        parentsFlat(due);
        parentsRound(due);
        birthAndDeath(due);
        refuses(due);
        due.end();
    }

    private static void parentsFlat(Due due) {
        KnitBench bench = Due.bench(10, false);
        due.works(bench, "k3tog,ssk,c2/1b,kfb,bind,yo", 8);
        String[] want = {"9 8 7", "6 5", "2", "4", "3", "1", "1", ""};
        for (int i = 0; i < want.length; i++) {
            due.same("flat parents of " + (10 + i), Due.parents(bench, 10 + i), want[i]);
        }
        due.same("parents of the cast on", Due.parents(bench, 0), "");
    }

    private static void parentsRound(Due due) {
        KnitBench bench = Due.bench(10, true);
        due.works(bench, "cast1,k3tog,k2tog,c1/2f,sl,p", 8);
        String[] want = {"", "0 1 2", "3 4", "6", "7", "5", "8", "9"};
        for (int i = 0; i < want.length; i++) {
            due.same("round parents of " + (10 + i), Due.parents(bench, 10 + i), want[i]);
        }
    }

    private static void birthAndDeath(Due due) {
        KnitBench bench = Due.bench(2, true);
        due.works(bench, "k,p", 2);
        due.works(bench, "bind,yo,k", 2);
        int[] born = {0, 0, 1, 1, 2, 2};
        int[] died = {1, 1, 2, 2, 0, 0};
        for (int loop = 0; loop < born.length; loop++) {
            due.same("loop(" + loop + ", 0)", bench.loop(loop, 0), born[loop]);
            due.same("loop(" + loop + ", 1)", bench.loop(loop, 1), died[loop]);
        }
    }

    private static void refuses(Due due) {
        KnitBench bench = Due.bench(3, true);
        due.works(bench, "k2tog,k", 2);
        int[][] wrong = {{-1, 0}, {5, 0}, {Integer.MAX_VALUE, 0}, {Integer.MIN_VALUE, 2}, {0, -1}, {0, 3},
            {3, 5}, {4, 4}, {3, Integer.MAX_VALUE}, {3, Integer.MIN_VALUE}};
        for (int[] w : wrong) {
            due.raises("loop(" + w[0] + ", " + w[1] + ")", IllegalArgumentException.class,
                () -> bench.loop(w[0], w[1]));
        }
        due.same("loop(3, 4)", bench.loop(3, 4), 1);
    }
}
