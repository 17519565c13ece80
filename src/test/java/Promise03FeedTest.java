/** feed. */
public final class Promise03FeedTest {
    private static final String BYTES =
        "n bytes (1 .. 8; the lowest n, the highest of these first) more on the tape: how many.";
    private static final String REFUSES_N = "IllegalArgumentException: n is not so;";
    private static final String REFUSES_MORE = "IllegalStateException: there would be more than 200.";
    private static final String TEXT = "A TEXT has at most 200 bytes.";

    public static void main(String[] args) {
        Sentences.runAll(Promise03FeedTest.class);
    }

    @Says(promise = 3, words = BYTES)
    static void oneByteIsTheLeast(Due due) {
        Bench bench = Bench.round(2);
        due.same("feed of one", bench.feed('k', 1), 1);
        due.same("feed of one more", bench.feed('2', 1), 2);
        due.same("work()", bench.work(), 2);
    }

    @Says(promise = 3, words = BYTES)
    static void eightBytesAreTheMost(Due due) {
        Bench bench = Bench.round(4);
        due.same("feed of eight", bench.feed(0x6B322C6B32746F67L, 8), 8);
        due.same("work of k2,k2tog", bench.work(), 3);
        due.same("chart", bench.chart(1), "0 0 3");
        due.same("feed of eight", bench.feed(0x6B2C6B2020202020L, 8), 8);
        due.same("feed of eight more", bench.feed(0x20202020202C6BL, 8), 16);
        due.same("work of a text with a zero byte", bench.work(), -1008);
    }

    /** Each number of bytes of the same eight, the last of which are the lowest. */
    @Says(promise = 3, words = BYTES)
    static void onlyTheLowestAreTakenTheHighestFirst(Due due) {
        String text = "p, kfb,k";
        long packed = 0x702C206B66622C6BL;
        int[] want = {2, -1000, -1001, -1000, 3, 3, -1000, 4};
        for (int n = 1; n <= 8; n++) {
            Bench bench = Bench.round(n == 8 ? 3 : 2);
            due.same("feed of " + n, bench.feed(packed, n), n);
            due.same("feed of a comma or blanks", bench.feed(n == 1 ? 0x2C6B : 0x2020, 2), n + 2);
            due.same("work of '" + text.substring(8 - n) + "'", bench.work(), want[n - 1]);
        }
    }

    @Says(promise = 3, words = BYTES)
    static void bytesAboveTheLowestAreLeftAside(Due due) {
        Bench bench = Bench.round(2);
        due.same("feed", bench.feed(0x7878787878786BL, 1), 1);
        due.same("feed", bench.feed(0x7878787878782C70L, 2), 3);
        due.same("work of k,p", bench.work(), 2);
        due.same("chart", bench.chart(1), "0 1");
        due.same("feed of a number below 0", bench.feed(-256L + 'k', 1), 1);
        due.same("feed", bench.feed('2', 1), 2);
        due.same("work of k2", bench.work(), 2);
    }

    @Says(promise = 3, words = BYTES)
    static void allBytesUpTo255AreTaken(Due due) {
        for (int sign : new int[] {0, 127, 128, 255}) {
            Bench bench = Bench.round(1);
            due.same("feed", bench.feed('k' << 8 | sign, 2), 2);
            due.same("work of k and " + sign, bench.work(), -1001);
        }
        Bench bench = Bench.round(1);
        due.same("feed of eight bytes of 255", bench.feed(-1L, 8), 8);
        due.same("work of them", bench.work(), -1000);
        due.same("feed of the least number", bench.feed(Long.MIN_VALUE, 8), 8);
        due.same("work of it", bench.work(), -1000);
        due.same("feed of 0", bench.feed(0, 1), 1);
        due.same("work of it", bench.work(), -1000);
    }

    @Says(promise = 3, words = BYTES)
    static void theAnswerCountsFromTheLastWorkOn(Due due) {
        Bench bench = Bench.round(1);
        due.same("feed", bench.feed('k', 1), 1);
        due.same("feed", bench.feed(0x202020, 3), 4);
        due.same("work()", bench.work(), 1);
        due.same("feed behind a row", bench.feed('x', 1), 1);
        due.same("work()", bench.work(), -1000);
        due.same("feed behind a fault", bench.feed(0x6B20, 2), 2);
        due.same("work()", bench.work(), 1);
    }

    @Says(promise = 3, words = REFUSES_N)
    static void noByteIsTooFew(Due due) {
        refused(due, 0);
        refused(due, -1);
        refused(due, -8);
        refused(due, Integer.MIN_VALUE);
    }

    @Says(promise = 3, words = REFUSES_N)
    static void nineBytesAreTooMany(Due due) {
        refused(due, 9);
        refused(due, 201);
        refused(due, 256 + 1);
        refused(due, Integer.MAX_VALUE);
    }

    private static void refused(Due due, int n) {
        Bench bench = Bench.round(2);
        bench.type("k,");
        due.refuses("feed(.., " + n + ")", () -> bench.feed(0x7878787878787878L, n));
        due.same("feed behind it", bench.feed('p', 1), 3);
        due.same("work()", bench.work(), 2);
        due.same("chart", bench.chart(1), "0 1");
    }

    @Says(promise = 3, words = REFUSES_N)
    static void aWrongNumberIsToldOfAFullTapeToo(Due due) {
        Bench bench = Bench.round(1);
        bench.type("k" + " ".repeat(199));
        due.refuses("feed of 9", () -> bench.feed(0, 9));
        due.refuses("feed of 0", () -> bench.feed(0, 0));
        due.refuses("feed of the most", () -> bench.feed(0, Integer.MAX_VALUE));
        due.refuses("feed of the least", () -> bench.feed(0, Integer.MIN_VALUE));
        due.same("work()", bench.work(), 1);
    }

    @Says(promise = 3, words = TEXT)
    static void twoHundredBytesFit(Due due) {
        Bench bench = Bench.round(1);
        bench.type(" ".repeat(192));
        due.same("feed to 200", bench.feed(0x202020202020206BL, 8), 200);
        due.same("work()", bench.work(), 1);
        due.same("feed behind it", bench.feed('k', 1), 1);
    }

    @Says(promise = 3, words = REFUSES_MORE)
    static void oneMoreThanTwoHundredDoesNotFit(Due due) {
        Bench bench = Bench.round(1);
        bench.type("k" + " ".repeat(199));
        for (int n = 1; n <= 8; n++) {
            int more = n;
            due.raises("feed of " + n + " to the full tape", IllegalStateException.class, () -> bench.feed('k', more));
        }
        due.same("work()", bench.work(), 1);
        due.same("feed behind it", bench.feed('k', 1), 1);
    }

    /** At each length near the end just so many bytes fit, and of more that are fed none stays. */
    @Says(promise = 3, words = REFUSES_MORE)
    static void ofBytesThatDoNotFitNoneStays(Due due) {
        for (int room = 1; room <= 7; room++) {
            Bench bench = Bench.round(1);
            bench.type("k" + " ".repeat(199 - room));
            int more = room + 1;
            due.raises("feed to 201", IllegalStateException.class, () -> bench.feed(0x7878787878787878L, more));
            due.raises("feed of 8", IllegalStateException.class, () -> bench.feed(0x7878787878787878L, 8));
            due.same("feed to 200", bench.feed(0x2020202020202020L, room), 200);
            due.same("work()", bench.work(), 1);
        }
    }
}
