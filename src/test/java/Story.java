import java.util.ArrayList;
import java.util.List;

/** What has been done to a bench, so that it can be done to another when the calls of one run out. */
final class Story {
    private final int loops;
    private final boolean round;
    // A text to be worked, or null when the number beside it tells how many rows were taken back.
    private final List<String> texts = new ArrayList<>();
    private final List<Integer> backs = new ArrayList<>();
    private Bench bench;

    Story(int loops, boolean round) {
        this.loops = loops;
        this.round = round;
        bench = Bench.of(loops, round);
    }

    /** A bench that has so many calls left, or null when even a new one has not. */
    Bench benchFor(int calls) {
        if (bench.callsLeft() < calls) {
            bench = retold(calls);
        }
        return bench.callsLeft() < calls ? null : bench;
    }

    private Bench retold(int calls) {
        int cost = 1;
        for (String text : texts) {
            cost += costOf(text);
        }
        if (cost + calls > Bench.MOST_CALLS) {
            return bench;
        }
        Bench other = Bench.of(loops, round);
        for (int i = 0; i < texts.size(); i++) {
            if (texts.get(i) == null) {
                other.unravel(backs.get(i));
            } else {
                other.work(texts.get(i));
            }
        }
        return other;
    }

    private static int costOf(String text) {
        return text == null ? 1 : Bench.feedsOf(text) + 1;
    }

    boolean canWork(String text) {
        return benchFor(costOf(text)) != null;
    }

    /** Faults change nothing, so only rows are told again. */
    int work(String text) {
        int answer = bench.work(text);
        if (answer > 0) {
            texts.add(text);
            backs.add(0);
        }
        return answer;
    }

    int unravel(int k) {
        texts.add(null);
        backs.add(k);
        return bench.unravel(k);
    }
}
