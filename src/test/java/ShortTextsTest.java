import java.util.List;

/**
 * All short texts, each up to its first wrong byte, against the grammar, and all short rows against the
 * model: where the random runs of ModelTest go far, these leave nothing out near by.
 */
public final class ShortTextsTest {
    // Each sign that stands somewhere in a right text.
    private static final String SIGNS = "kpslyobindcatrefgx(),/ 0123456789";
    private static final int MOST_SIGNS = 5;
    private static final int MOST_SIGNS_MORE = 3;
    // Beginnings that short texts do not come to by themselves.
    private static final String[] BEGINNINGS = {"rep(k)", "rep ( k ) to ", "rep(k)tolast", "rep(k)to last 9",
        "((((k", "rep((((k", "rep((((k)x2", "((((k)x2", "(k)x", "(k)x9", "k,c", "c1", "c1/", "cas", "cast", "cast9",
        "k2", "k3t", "k99", "ss", "bin", "k, ", "( "};

    private final Due due = new Due();
    private final Grammar grammar = new Grammar();
    private Bench bench = new Bench();
    private int texts;
    private int rows;

    public static void main(String[] args) {
        ShortTextsTest test = new ShortTextsTest();
        test.readAllFrom("", MOST_SIGNS);
        for (String beginning : BEGINNINGS) {
            test.readAllFrom(beginning, beginning.length() + MOST_SIGNS_MORE);
            test.readEveryByteBehind(beginning);
        }
        test.tellAll(List.of("k", "p"), 11);
        test.tellAll(List.of("k", "p", "sl"), 7);
        System.out.println(test.texts + " texts, " + test.rows + " rows");
        test.due.end();
    }

    /** What stands behind a wrong byte is left to ModelTest: there the texts are too many. */
    private void readAllFrom(String text, int longest) {
        int fault = read(text);
        boolean isHopeless = fault != 0 && fault != -1000 - text.length();
        if (isHopeless || text.length() >= longest) {
            return;
        }
        for (int i = 0; i < SIGNS.length(); i++) {
            readAllFrom(text + SIGNS.charAt(i), longest);
        }
    }

    private void readEveryByteBehind(String beginning) {
        for (char sign = 0; sign < 256; sign++) {
            read(beginning + sign);
        }
    }

    /** Only the text's own faults are compared, whatever becomes of the right ones. */
    private int read(String text) {
        bench = withCalls(Bench.feedsOf(text) + 2);
        int want = grammar.fault(text);
        bench.begin(1, false);
        int got = bench.work(text);
        due.same("fault of '" + text + "'", got <= -3000 || got > 0 ? 0 : got, want);
        texts++;
        return want;
    }

    private Bench withCalls(int calls) {
        return bench.callsLeft() < calls ? new Bench() : bench;
    }

    private void tellAll(List<String> names, int longest) {
        int count = 1;
        for (int length = 1; length <= longest; length++) {
            count *= names.size();
            for (int number = 0; number < count; number++) {
                tell(rowOf(names, length, number), length);
            }
        }
    }

    private static String rowOf(List<String> names, int length, int number) {
        StringBuilder row = new StringBuilder();
        int digits = number;
        for (int i = 0; i < length; i++) {
            row.append(i == 0 ? "" : ",").append(names.get(digits % names.size()));
            digits /= names.size();
        }
        return row.toString();
    }

    private void tell(String row, int loops) {
        Model model = new Model(loops, true);
        model.work(row);
        Model.Told told = model.shortest(1);
        // A wrong text may be longer than the one that is due, but a word with its comma has at most 6 bytes.
        bench = withCalls(Bench.feedsOf(row) + 6 * loops + 4);
        bench.begin(loops, true);
        due.works(bench, row, loops);
        due.same("words of '" + row + "'", bench.shorten(1), told.words());
        due.same("shortest of '" + row + "'", bench.out(), told.text());
        rows++;
    }
}
