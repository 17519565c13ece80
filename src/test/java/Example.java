/** The example of README.md. */
public final class Example {
    public static void main(String[] args) {
        KnitBench bench = new KnitBench();
        bench.begin(12, false);
        type(bench, "k2, (yo, k2tog) x3, rep (p, k) to last 2, k2");
        System.out.println("row 1: " + bench.work() + " live loops");
        type(bench, "k9, c2/2f");
        System.out.println("row 2: " + told(bench.work()));
        type(bench, "k4, c2/2f, bind2, p2");
        System.out.println("row 2: " + told(bench.work()));
        System.out.println("place 0 of the needle: loop " + bench.live(0) + ", made in row "
            + bench.loop(bench.live(0), 0) + " of loop " + bench.loop(bench.live(0), 3));
        System.out.println("row 2 from the right, seen from the front: stitch " + bench.chart(2, 0));
        System.out.println("row 1 in " + bench.shorten(1) + " words: " + shortest(bench));
        System.out.println("rows left: " + bench.unravel(1));
    }

    /** Eight bytes a call, for an object has 512 calls. */
    private static void type(KnitBench bench, String text) {
        for (int start = 0; start < text.length(); start += 8) {
            int end = Math.min(start + 8, text.length());
            long bytes = 0;
            for (int i = start; i < end; i++) {
                bytes = bytes << 8 | text.charAt(i);
            }
            bench.feed(bytes, end - start);
        }
    }

    private static String told(int answer) {
        return answer < 0 ? "fault " + -answer / 1000 + " at byte " + -answer % 1000 : answer + " live loops";
    }

    private static String shortest(KnitBench bench) {
        StringBuilder text = new StringBuilder();
        for (int i = 0; bench.out(i) >= 0; i++) {
            text.append((char) bench.out(i));
        }
        return text.toString();
    }
}
