/** live: the loops in the order in which the next row takes them. */
public final class Promise07LiveTest {
    public static void main(String[] args) {
        Due due = new Due();
        KnitBench flat = Due.bench(3, false);
        due.works(flat, "k,bind,yo,p", 3);
        due.same("flat needle", Due.needle(flat), "5 4 3");
        due.same("live(-1)", flat.live(-1), -1);
        due.same("live(3)", flat.live(3), -1);
        due.same("live of the greatest", flat.live(Integer.MAX_VALUE), -1);
        due.same("live of the least", flat.live(Integer.MIN_VALUE), -1);
        due.works(flat, "k3", 3);
        due.same("flat needle of row 2", Due.needle(flat), "8 7 6");

        KnitBench round = Due.bench(3, true);
        due.works(round, "cast1,kfb,k2tog", 4);
        due.same("round needle", Due.needle(round), "3 4 5 6");
        due.same("live(4)", round.live(4), -1);
        due.works(round, "k9", -4000);
        due.same("round needle behind a fault", Due.needle(round), "3 4 5 6");
        due.end();
    }
}
