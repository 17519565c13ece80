import java.util.List;
import java.util.Random;

/** Long runs of rows, each looked at in full, against a model of the document. */
public final class ModelTest {
    private static final int RUNS = 250;
    private static final int STEPS = 60;
    private static final int NESTED_ROWS = 1500;
    private static final int HEAPS = 60000;

    private final Due due = new Due();
    private final Random random = new Random(20261115);
    private final TextMaker texts = new TextMaker(random);
    private final int[] seen = new int[10];
    private int longest;

    public static void main(String[] args) {
        ModelTest test = new ModelTest();
        for (int i = 0; i < RUNS; i++) {
            test.run();
        }
        test.readHeaps();
        test.tellNestedRows();
        // Were a fault never met, the runs would not be worth much.
        for (int fault = 0; fault < test.seen.length; fault++) {
            test.due.isTrue("fault " + fault + " was met", test.seen[fault] > 0);
        }
        test.due.isTrue("a row of more than 60 stitches was met", test.longest > 60);
        test.due.end();
    }

    private void run() {
        boolean round = random.nextBoolean();
        int loops = 1 + random.nextInt(texts.chance(3) ? 40 : 15);
        Story story = new Story(loops, round);
        Model model = new Model(loops, round);
        boolean longRun = texts.chance(5);
        for (int i = 0; i < STEPS; i++) {
            if (!longRun && model.rows() > 0 && texts.chance(12)) {
                unravel(story, model);
            } else {
                boolean plain = longRun && !texts.chance(3);
                work(story, model, plain ? "rep(k)to last 0" : texts.row(model.needle().size()));
            }
            lookAtLoops(story, model);
            if (model.rows() > 0) {
                lookAtRow(story, model, 1 + random.nextInt(model.rows()));
            }
        }
    }

    private void unravel(Story story, Model model) {
        int k = random.nextInt(model.rows() + 1);
        if (story.benchFor(1) != null) {
            for (int i = 0; i < k; i++) {
                model.unravelOne();
            }
            due.same("unravel(" + k + ")", story.unravel(k), model.rows());
        }
    }

    private void work(Story story, Model model, String text) {
        if (story.canWork(text)) {
            int want = model.work(text);
            seen[want < 0 ? -want / 1000 : 0]++;
            due.same("work of '" + text + "'", story.work(text), want);
        }
    }

    private void lookAtLoops(Story story, Model model) {
        List<Integer> needle = model.needle();
        int place = random.nextInt(needle.size());
        int loop = random.nextInt(model.loops().size());
        Bench bench = story.benchFor(needle.size() + 20);
        if (bench == null) {
            return;
        }
        due.same("rows()", bench.rows(), model.rows());
        due.same("needle", bench.needle(), words(needle));
        due.same("ladder(" + place + ")", bench.ladder(place), model.ladder(needle.get(place)));
        due.same("loop(" + loop + ", 0)", bench.loop(loop, 0), model.loops().get(loop).born());
        due.same("loop(" + loop + ", 1)", bench.loop(loop, 1), model.diedIn(loop));
        due.same("parents of " + loop, bench.parents(loop), words(model.loops().get(loop).parents()));
        int newest = needle.get(place);
        due.same("parents of " + newest, bench.parents(newest), words(model.loops().get(newest).parents()));
        due.same("totals", bench.totals(), totals(model));
    }

    private static String totals(Model model) {
        int bound = 0;
        int taken = 0;
        for (int row = 1; row <= model.rows(); row++) {
            for (Model.Stitch stitch : model.stitches(row)) {
                bound += stitch.kind() == 8 ? 1 : 0;
                taken += stitch.kind() == 8 ? 0 : stitch.takes();
            }
        }
        return words(List.of(model.loops().size(), model.needle().size(), taken, bound));
    }

    private void lookAtRow(Story story, Model model, int row) {
        Bench bench = story.benchFor(6 + model.stitches(row).size());
        if (bench != null) {
            due.same("numbers of row " + row, bench.numbers(row), numbers(model.stitches(row)));
            due.same("chart of row " + row, bench.chart(row), words(model.chart(row)));
        }
        Model.Told told = model.shortest(row);
        bench = story.benchFor(2 + told.text().length());
        if (bench != null) {
            due.same("shorten(" + row + ")", bench.shorten(row), told.words());
            due.same("shortest of row " + row, bench.out(), told.text());
        }
    }

    private static String numbers(List<Model.Stitch> stitches) {
        int pairs = 0;
        int taken = 0;
        int made = 0;
        int bound = 0;
        for (Model.Stitch stitch : stitches) {
            pairs += stitch.a() * stitch.b();
            taken += stitch.takes();
            made += stitch.makes();
            bound += stitch.kind() == 8 ? 1 : 0;
        }
        return words(List.of(stitches.size(), pairs, taken, made, bound));
    }

    /** Only the text's own faults are compared here, whatever becomes of the right ones. */
    private void readHeaps() {
        Grammar grammar = new Grammar();
        Bench bench = new Bench();
        for (int i = 0; i < HEAPS; i++) {
            String text = texts.chance(2) ? texts.heap() : texts.row(1);
            int want = grammar.fault(text);
            if (bench.callsLeft() < Bench.feedsOf(text) + 1) {
                bench = new Bench();
            }
            int got = bench.work(text);
            due.same("fault of '" + text + "'", got <= -3000 || got > 0 ? 0 : got, want);
        }
    }

    /** Rows of up to 80 stitches with much in them that comes again. */
    private void tellNestedRows() {
        for (int i = 0; i < NESTED_ROWS; i++) {
            String text = texts.nested();
            for (int loops = 1; loops <= 40; loops++) {
                Model model = new Model(loops, true);
                if (model.work(text) > 0) {
                    Story story = new Story(loops, true);
                    due.same("work of '" + text + "'", story.work(text), model.needle().size());
                    lookAtRow(story, model, 1);
                    longest = Math.max(longest, model.stitches(1).size());
                }
            }
        }
    }

    private static String words(List<Integer> numbers) {
        StringBuilder text = new StringBuilder();
        for (int number : numbers) {
            text.append(text.length() == 0 ? "" : " ").append(number);
        }
        return text.toString();
    }
}
