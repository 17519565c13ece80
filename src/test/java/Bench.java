import java.nio.charset.StandardCharsets;

/**
 * A KnitBench that counts its calls: what one answers behind its 512th call is free, so no test may
 * ask it. Beside the calls of the face it has some that type, or read, a whole text.
 */
final class Bench {
    static final int MOST_CALLS = 512;

    private final KnitBench bench = new KnitBench();
    private int calls;

    static Bench flat(int loops) {
        return of(loops, false);
    }

    static Bench round(int loops) {
        return of(loops, true);
    }

    static Bench of(int loops, boolean round) {
        Bench bench = new Bench();
        bench.begin(loops, round);
        return bench;
    }

    int callsLeft() {
        return MOST_CALLS - calls;
    }

    private KnitBench called() {
        if (calls == MOST_CALLS) {
            throw new AssertionError("the test asks more of an object than is promised");
        }
        calls++;
        return bench;
    }

    void begin(int loops, boolean round) {
        called().begin(loops, round);
    }

    int feed(long bytes, int n) {
        return called().feed(bytes, n);
    }

    int work() {
        return called().work();
    }

    int rows() {
        return called().rows();
    }

    int unravel(int k) {
        return called().unravel(k);
    }

    int live(int i) {
        return called().live(i);
    }

    int loop(int loop, int what) {
        return called().loop(loop, what);
    }

    int chart(int row, int c) {
        return called().chart(row, c);
    }

    int row(int row, int what) {
        return called().row(row, what);
    }

    int shorten(int row) {
        return called().shorten(row);
    }

    int out(int i) {
        return called().out(i);
    }

    int ladder(int i) {
        return called().ladder(i);
    }

    int total(int what) {
        return called().total(what);
    }

    static int feedsOf(String text) {
        return (text.length() + 7) / 8;
    }

    void type(String text) {
        byte[] bytes = text.getBytes(StandardCharsets.ISO_8859_1);
        for (int start = 0; start < bytes.length; start += 8) {
            int n = Math.min(8, bytes.length - start);
            long packed = 0;
            for (int i = 0; i < n; i++) {
                packed = packed << 8 | bytes[start + i] & 255;
            }
            feed(packed, n);
        }
    }

    int work(String text) {
        type(text);
        return work();
    }

    /** Works the same text so often. */
    void workAll(String text, int times) {
        for (int i = 0; i < times; i++) {
            int live = work(text);
            if (live < 1) {
                throw new AssertionError("work of '" + text + "' answered " + live);
            }
        }
    }

    String out() {
        StringBuilder text = new StringBuilder();
        for (int sign = out(0); sign >= 0; sign = out(text.length())) {
            text.append((char) sign);
        }
        return text.toString();
    }

    String needle() {
        StringBuilder text = new StringBuilder();
        int loop = live(0);
        for (int i = 1; loop >= 0; i++) {
            text.append(i == 1 ? "" : " ").append(loop);
            loop = live(i);
        }
        return text.toString();
    }

    String chart(int row) {
        StringBuilder text = new StringBuilder();
        int count = row(row, 0);
        for (int c = 0; c < count; c++) {
            text.append(c == 0 ? "" : " ").append(chart(row, c));
        }
        return text.toString();
    }

    /** What the face tells of a row: stitches, crossed pairs, loops taken, made, bound. */
    String numbers(int row) {
        StringBuilder text = new StringBuilder();
        for (int what = 0; what <= 4; what++) {
            text.append(what == 0 ? "" : " ").append(row(row, what));
        }
        return text.toString();
    }

    String parents(int loop) {
        StringBuilder text = new StringBuilder();
        int count = loop(loop, 2);
        for (int j = 0; j < count; j++) {
            text.append(j == 0 ? "" : " ").append(loop(loop, 3 + j));
        }
        return text.toString();
    }

    String totals() {
        return total(0) + " " + total(1) + " " + total(2) + " " + total(3);
    }

    String ladders() {
        StringBuilder text = new StringBuilder();
        int live = total(1);
        for (int i = 0; i < live; i++) {
            text.append(i == 0 ? "" : " ").append(ladder(i));
        }
        return text.toString();
    }

    /** All that can be asked but for the tape; only of small fabrics, for the calls are counted. */
    String state() {
        StringBuilder text = new StringBuilder();
        int rows = rows();
        text.append(rows).append(" rows, needle ").append(needle()).append(", totals ").append(totals());
        int loops = total(0);
        for (int loop = 0; loop < loops; loop++) {
            text.append("; loop ").append(loop(loop, 0)).append(' ').append(loop(loop, 1)).append(" of ")
                .append(parents(loop));
        }
        for (int row = 1; row <= rows; row++) {
            text.append("; row ").append(chart(row)).append(" with ").append(numbers(row));
        }
        return text.append("; ").append(out()).toString();
    }
}
