import java.util.ArrayList;
import java.util.List;

/** Compares answers with those that are due, and remembers the wrong ones. */
final class Due {
    private static final int MOST_TOLD = 20;

    private final List<String> wrongs = new ArrayList<>();

    List<String> wrongs() {
        return wrongs;
    }

    /** A broken program may be wrong everywhere; the first wrong answers tell enough. */
    void fail(String what) {
        if (wrongs.size() < MOST_TOLD) {
            wrongs.add(what);
        }
    }

    void same(String what, long got, long want) {
        if (got != want) {
            fail(what + " answered " + got + ", due is " + want);
        }
    }

    void same(String what, String got, String want) {
        if (!got.equals(want)) {
            fail(what + " answered '" + got + "', due is '" + want + "'");
        }
    }

    void isTrue(String what, boolean got) {
        if (!got) {
            fail(what + " is not so");
        }
    }

    void raises(String what, Class<? extends RuntimeException> want, Runnable call) {
        String got = "nothing";
        try {
            call.run();
        } catch (RuntimeException e) {
            got = e.getClass().getSimpleName();
        }
        if (!got.equals(want.getSimpleName())) {
            fail(what + " threw " + got + ", due is " + want.getSimpleName());
        }
    }

    void refuses(String what, Runnable call) {
        raises(what, IllegalArgumentException.class, call);
    }

    /** Works a text that should be right, or have just this fault. */
    void works(Bench bench, String text, int want) {
        same("work of '" + text + "'", bench.work(text), want);
    }

    /** Works a text as the first row on so many loops: in round work and flat there is no difference. */
    void row(int loops, String text, int want) {
        works(Bench.flat(loops), text, want);
        works(Bench.round(loops), text, want);
    }

    /** The end of a main that is no list of sentences. */
    void end() {
        for (String wrong : wrongs) {
            System.out.println(wrong);
        }
        if (!wrongs.isEmpty()) {
            System.exit(1);
        }
    }
}
