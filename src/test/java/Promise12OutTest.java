/** out. */
public final class Promise12OutTest {
    private static final String OUT = "Byte i of the latest shortest text; -1 behind it (and when there was none).";
    private static final String REFUSES = "IllegalArgumentException: i is below 0.";

    public static void main(String[] args) {
        Sentences.runAll(Promise12OutTest.class);
    }

    @Says(promise = 12, words = OUT)
    static void theFirstByteIsZero(Due due) {
        Bench bench = Bench.round(4);
        due.works(bench, "k2tog,p2", 3);
        bench.shorten(1);
        String want = "k2tog,(p)x2";
        for (int i = 0; i < want.length(); i++) {
            due.same("out(" + i + ")", bench.out(i), want.charAt(i));
        }
    }

    @Says(promise = 12, words = OUT)
    static void behindTheLastByteThereIsNone(Due due) {
        Bench bench = Bench.round(2);
        due.works(bench, "k,p", 2);
        bench.shorten(1);
        due.same("out(2)", bench.out(2), 'p');
        for (int i : new int[] {3, 4, 200, 479, 480, 481, 100000, Integer.MAX_VALUE}) {
            due.same("out(" + i + ")", bench.out(i), -1);
        }
    }

    @Says(promise = 12, words = OUT)
    static void beforeTheFirstTextThereIsNone(Due due) {
        Bench bench = Bench.round(2);
        due.same("out(0)", bench.out(0), -1);
        due.same("out of the greatest", bench.out(Integer.MAX_VALUE), -1);
        due.works(bench, "k,p", 2);
        due.same("out(0) behind a row", bench.out(0), -1);
        due.refuses("shorten(2)", () -> bench.shorten(2));
        due.same("out(0) behind a refused call", bench.out(0), -1);
        due.same("out(0) of a new object", new Bench().out(0), -1);
    }

    @Says(promise = 12, words = OUT)
    static void ofALongerTextNothingStays(Due due) {
        Bench bench = Bench.round(4);
        due.works(bench, "k,p,sl,kfb", 5);
        due.works(bench, "k5", 5);
        due.works(bench, "(k2tog)x2,k", 3);
        due.works(bench, "k3tog", 1);
        due.works(bench, "p", 1);
        bench.shorten(1);
        due.same("row 1", bench.out(), "k,p,sl,kfb");
        bench.shorten(5);
        due.same("row 5", bench.out(), "p");
        due.same("out(1)", bench.out(1), -1);
        due.same("out(2)", bench.out(2), -1);
        bench.shorten(3);
        due.same("row 3", bench.out(), "k2tog,k2tog,k");
    }

    @Says(promise = 12, words = OUT)
    static void theLatestTextStaysUntilTheNext(Due due) {
        Bench bench = Bench.round(3);
        due.works(bench, "k,p,k", 3);
        bench.shorten(1);
        due.works(bench, "p3", 3);
        due.same("behind work", bench.out(), "k,p,k");
        due.works(bench, "p4", -4000);
        due.same("behind a fault", bench.out(), "k,p,k");
        bench.type("k");
        due.same("behind feed", bench.out(), "k,p,k");
        bench.unravel(2);
        due.same("behind unravel", bench.out(), "k,p,k");
        due.refuses("shorten(1)", () -> bench.shorten(1));
        due.same("behind a refused shorten", bench.out(), "k,p,k");
        due.refuses("begin(0, true)", () -> bench.begin(0, true));
        due.same("behind a refused begin", bench.out(), "k,p,k");
        bench.begin(3, true);
        due.same("behind begin", bench.out(0), -1);
    }

    /** 30 stitches in an order in which nothing comes again that would save a word. */
    @Says(promise = 12, words = OUT)
    static void longTextsAreToldToTheirEnd(Due due) {
        String text = "cast1,yo,k2tog,ssk,bind,k3tog,yo,kfb,ssk,k2tog,bind,yo,k3tog,kfb,yo,bind,ssk,kfb,k2tog,yo,bind,"
            + "k3tog,ssk,yo,kfb,bind,k2tog,kfb,ssk,bind";
        Bench bench = Bench.round(38);
        due.same("sign of work", Integer.signum(bench.work(text)), 1);
        due.same("words", bench.shorten(1), 30);
        due.same("out", bench.out(), text);
    }

    /** Sixty stitches, two and two alike, in an order in which nothing comes again at once. */
    @Says(promise = 12, words = OUT)
    static void aTextMayBeLongerThanTheTape(Due due) {
        StringBuilder text = new StringBuilder();
        StringBuilder want = new StringBuilder();
        for (char sign : "abacabcacbabcabacbcabcbabcacb".toCharArray()) {
            String name = sign == 'a' ? "bind" : sign == 'b' ? "yo" : "sl";
            text.append(name).append("2,");
            want.append(name).append(',').append(name).append(',');
        }
        Bench bench = Bench.round(40);
        due.works(bench, text + "sl2", 40);
        due.same("words", bench.shorten(1), 60);
        due.same("out", bench.out(), want + "(sl)x2");
        due.same("bytes", want.length() + 6, 220);
    }

    @Says(promise = 12, words = REFUSES)
    static void belowZeroIsRefused(Due due) {
        Bench bench = Bench.round(2);
        for (int i : new int[] {-1, -2, Integer.MIN_VALUE}) {
            due.refuses("out(" + i + ") when there was none", () -> bench.out(i));
        }
        due.works(bench, "k,p", 2);
        bench.shorten(1);
        for (int i : new int[] {-1, -2, Integer.MIN_VALUE}) {
            due.refuses("out(" + i + ")", () -> bench.out(i));
        }
        due.same("out", bench.out(), "k,p");
    }
}
