import java.util.List;
import java.util.Random;

/** Long runs of rows, each looked at in full, against a model of the document. */
public final class ModelTest {
    private static final int BENCHES = 250;
    private static final int CALLS = 60;

    private final Due due = new Due();
    private final Random random = new Random(20261115);
    private final TextMaker texts = new TextMaker(random);
    private final int[] seen = new int[10];
    private int longest;

    public static void main(String[] args) {
        ModelTest test = new ModelTest();
        for (int i = 0; i < BENCHES; i++) {
            test.runBench();
        }
        test.readHeaps();
        test.tellNestedRows();
        // Were a fault never met, the runs would not be worth much.
        for (int fault = 0; fault < test.seen.length; fault++) {
            if (test.seen[fault] == 0) {
                test.due.same("runs with fault " + fault, 0, 1);
            }
        }
        test.due.end();
    }

    private void runBench() {
        boolean round = random.nextBoolean();
        int loops = 1 + random.nextInt(texts.chance(3) ? 40 : 15);
        KnitBench bench = Due.bench(loops, round);
        Model model = new Model(loops, round);
        boolean longRun = texts.chance(5);
        for (int i = 0; i < CALLS; i++) {
            if (!longRun && model.rows() > 0 && texts.chance(12)) {
                unravel(bench, model);
            } else {
                work(bench, model, longRun && !texts.chance(3) ? "rep(k)to last 0" : texts.row(model.needle().size()));
            }
            lookAtLoops(bench, model);
            if (model.rows() > 0) {
                lookAtRow(bench, model, 1 + random.nextInt(model.rows()));
            }
        }
    }

    private void unravel(KnitBench bench, Model model) {
        int k = random.nextInt(model.rows() + 1);
        for (int i = 0; i < k; i++) {
            model.unravelOne();
        }
        due.same("unravel(" + k + ")", bench.unravel(k), model.rows());
    }

    private void work(KnitBench bench, Model model, String text) {
        int want = model.work(text);
        seen[want < 0 ? -want / 1000 : 0]++;
        due.works(bench, text, want);
        due.same("rows()", bench.rows(), model.rows());
    }

    private void lookAtLoops(KnitBench bench, Model model) {
        List<Integer> needle = model.needle();
        due.same("needle", Due.needle(bench), words(needle));
        int place = random.nextInt(needle.size());
        due.same("ladder(" + place + ")", bench.ladder(place), model.ladder(needle.get(place)));
        int loop = random.nextInt(model.loops().size());
        due.same("loop(" + loop + ", 0)", bench.loop(loop, 0), model.loops().get(loop).born());
        due.same("loop(" + loop + ", 1)", bench.loop(loop, 1), model.diedIn(loop));
        int newest = needle.get(place);
        due.same("parents of " + newest, Due.parents(bench, newest), words(model.loops().get(newest).parents()));
        lookAtTotals(bench, model);
    }

    private void lookAtTotals(KnitBench bench, Model model) {
        int bound = 0;
        int taken = 0;
        for (int row = 1; row <= model.rows(); row++) {
            for (Model.Stitch stitch : model.stitches(row)) {
                bound += stitch.kind() == 8 ? 1 : 0;
                taken += stitch.kind() == 8 ? 0 : stitch.takes();
            }
        }
        due.same("total(0)", bench.total(0), model.loops().size());
        due.same("total(1)", bench.total(1), model.needle().size());
        due.same("total(2)", bench.total(2), taken);
        due.same("total(3)", bench.total(3), bound);
    }

    private void lookAtRow(KnitBench bench, Model model, int row) {
        int[] want = new int[5];
        for (Model.Stitch stitch : model.stitches(row)) {
            want[0]++;
            want[1] += stitch.a() * stitch.b();
            want[2] += stitch.takes();
            want[3] += stitch.makes();
            want[4] += stitch.kind() == 8 ? 1 : 0;
        }
        for (int what = 0; what < want.length; what++) {
            due.same("row(" + row + ", " + what + ")", bench.row(row, what), want[what]);
        }
        due.same("chart of row " + row, Due.chart(bench, row), words(model.chart(row)));
        Model.Told told = model.shortest(row);
        due.same("shorten(" + row + ")", bench.shorten(row), told.words());
        due.same("shortest of row " + row, Due.out(bench), told.text());
    }

    /** A bench that has 30 rows changes no more, and has all faults but the text's behind it. */
    private void readHeaps() {
        Grammar grammar = new Grammar();
        KnitBench bench = new KnitBench();
        for (int row = 0; row < 30; row++) {
            Due.work(bench, "k");
        }
        for (int i = 0; i < 60000; i++) {
            String text = texts.chance(2) ? texts.heap() : texts.row(1);
            int want = grammar.fault(text);
            int got = Due.work(bench, text);
            due.same("fault of '" + text + "'", got <= -3000 ? 0 : got, want);
        }
    }

    /** Rows of up to 80 stitches with much in them that comes again. */
    private void tellNestedRows() {
        for (int i = 0; i < 1500; i++) {
            String text = texts.nested();
            for (int loops = 1; loops <= 40; loops++) {
                Model model = new Model(loops, true);
                if (model.work(text) > 0) {
                    KnitBench bench = Due.bench(loops, true);
                    due.works(bench, text, model.needle().size());
                    lookAtRow(bench, model, 1);
                    longest = Math.max(longest, model.stitches(1).size());
                }
            }
        }
        due.same("rows of more than 60 stitches were met (1)", longest > 60 ? 1 : 0, 1);
    }

    private static String words(List<Integer> numbers) {
        StringBuilder text = new StringBuilder();
        for (int number : numbers) {
            text.append(text.length() == 0 ? "" : " ").append(number);
        }
        return text.toString();
    }
}
