import java.nio.charset.StandardCharsets;

/** Compares answers with those that are due, and remembers whether one was wrong. */
final class Due {
    private int wrong;

    void same(String what, long got, long want) {
        if (got != want) {
            wrong++;
            System.out.println(what + " answered " + got + ", due is " + want);
        }
    }

    void same(String what, String got, String want) {
        if (!got.equals(want)) {
            wrong++;
            System.out.println(what + " answered '" + got + "', due is '" + want + "'");
        }
    }

    void raises(String what, Class<? extends RuntimeException> want, Runnable call) {
        same(what, raisedBy(call), want.getSimpleName());
    }

    private static String raisedBy(Runnable call) {
        try {
            call.run();
            return "nothing";
        } catch (RuntimeException e) {
            return e.getClass().getSimpleName();
        }
    }

    /** The last call of a test's main. */
    void end() {
        if (wrong > 0) {
            System.exit(1);
        }
    }

    static KnitBench bench(int loops, boolean round) {
        KnitBench bench = new KnitBench();
        bench.begin(loops, round);
        return bench;
    }

    static void feed(KnitBench bench, String text) {
        byte[] bytes = text.getBytes(StandardCharsets.ISO_8859_1);
        for (int start = 0; start < bytes.length; start += 8) {
            int n = Math.min(8, bytes.length - start);
            long packed = 0;
            for (int i = 0; i < n; i++) {
                packed = packed << 8 | bytes[start + i] & 255;
            }
            bench.feed(packed, n);
        }
    }

    static int work(KnitBench bench, String text) {
        feed(bench, text);
        return bench.work();
    }

    /** Works a text that should be right, or have just this fault. */
    void works(KnitBench bench, String text, int want) {
        same("work of '" + text + "'", work(bench, text), want);
    }

    static String out(KnitBench bench) {
        StringBuilder text = new StringBuilder();
        for (int i = 0; bench.out(i) >= 0; i++) {
            text.append((char) bench.out(i));
        }
        return text.toString();
    }

    static String needle(KnitBench bench) {
        StringBuilder text = new StringBuilder();
        for (int i = 0; bench.live(i) >= 0; i++) {
            text.append(i == 0 ? "" : " ").append(bench.live(i));
        }
        return text.toString();
    }

    static String chart(KnitBench bench, int row) {
        StringBuilder text = new StringBuilder();
        for (int c = 0; c < bench.row(row, 0); c++) {
            text.append(c == 0 ? "" : " ").append(bench.chart(row, c));
        }
        return text.toString();
    }

    static String parents(KnitBench bench, int loop) {
        StringBuilder text = new StringBuilder();
        for (int j = 0; j < bench.loop(loop, 2); j++) {
            text.append(j == 0 ? "" : " ").append(bench.loop(loop, 3 + j));
        }
        return text.toString();
    }
}
