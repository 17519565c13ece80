import java.util.ArrayList;
import java.util.Collections;
import java.util.HashMap;
import java.util.List;
import java.util.Map;
import java.util.regex.Matcher;
import java.util.regex.Pattern;

/**
 * The document told a second time, as plainly as can be and with no thought of speed: loops and
 * needles are lists, a row taken back is the state that was kept before it.
 */
final class Model {
    private static final Grammar GRAMMAR = new Grammar();
    private static final String[] NAMES =
        {"k", "p", "sl", "k2tog", "ssk", "k3tog", "kfb", "yo", "bind", "cast"};
    private static final int[] TAKES = {1, 1, 1, 2, 2, 3, 1, 0, 1, 0};
    private static final int[] MAKES = {1, 1, 1, 1, 1, 1, 2, 1, 0, 1};
    private static final Pattern STITCHES = Pattern.compile(
        "c([1-5])/([1-5])([fb])|(k2tog|k3tog|kfb|ssk|k|p|sl|yo|bind|cast)([0-9]*)");

    /** A stitch with the name by which the shortest tells it. */
    record Stitch(int kind, int a, int b) {
        int code() {
            return 100 * a + 10 * b + kind;
        }

        int takes() {
            return kind >= 10 ? a + b : TAKES[kind];
        }

        int makes() {
            return kind >= 10 ? a + b : MAKES[kind];
        }

        String told() {
            if (kind >= 10) {
                return "c" + a + "/" + b + (kind == 10 ? "f" : "b");
            }
            return kind == 9 ? "cast1" : NAMES[kind];
        }
    }

    record Loop(int born, List<Integer> parents) { }

    /** One item of a right text: stitches, or a row in brackets (told: -1 for a group). */
    record Item(int place, Stitch stitch, int count, List<Item> inner, int told) { }

    record Told(int words, String text) { }

    private static final class Fault extends Exception {
        private static final long serialVersionUID = 1L;
        final int answer;

        Fault(int kind, int place) {
            answer = -(1000 * kind + place);
        }
    }

    private final boolean round;
    private final List<List<Loop>> loopsBefore = new ArrayList<>();
    private final List<List<Integer>> needlesBefore = new ArrayList<>();
    private final List<List<Stitch>> stitches = new ArrayList<>();
    private List<Loop> loops = new ArrayList<>();
    private List<Integer> needle = new ArrayList<>();

    private String text;
    private int at;
    private List<Integer> left;
    private List<Integer> made;
    private List<Loop> ever;
    private List<Stitch> worked;

    Model(int count, boolean round) {
        this.round = round;
        for (int i = 0; i < count; i++) {
            loops.add(new Loop(0, List.of()));
            needle.add(i);
        }
        turn(needle);
    }

    private void turn(List<Integer> made) {
        if (!round) {
            Collections.reverse(made);
        }
    }

    int work(String row) {
        int wrong = GRAMMAR.fault(row);
        if (wrong != 0) {
            return wrong;
        }
        text = row;
        at = 0;
        left = new ArrayList<>(needle);
        made = new ArrayList<>();
        ever = new ArrayList<>(loops);
        worked = new ArrayList<>();
        try {
            knit(readRow());
            endRow();
        } catch (Fault fault) {
            return fault.answer;
        }
        return needle.size();
    }

    private void endRow() throws Fault {
        if (!left.isEmpty()) {
            throw new Fault(7, text.length());
        }
        if (made.size() > 40) {
            throw new Fault(8, text.length());
        }
        if (rows() == 30) {
            throw new Fault(9, text.length());
        }
        loopsBefore.add(loops);
        needlesBefore.add(needle);
        stitches.add(worked);
        loops = ever;
        needle = made;
        turn(needle);
    }

    /** Right texts alone come here, so that signs can be passed over without a look. */
    private List<Item> readRow() {
        List<Item> items = new ArrayList<>();
        do {
            items.add(readItem());
        } while (at < text.length() && text.charAt(at++) == ',');
        return items;
    }

    private void skip(String signs) {
        while (at < text.length() && signs.indexOf(text.charAt(at)) >= 0) {
            at++;
        }
    }

    private Item readItem() {
        skip(" ");
        int place = at;
        Item item;
        if (text.charAt(at) == 'r') {
            skip("rep ");
            at++;
            List<Item> inner = readRow();
            skip(" tolas");
            item = new Item(place, null, 0, inner, Integer.parseInt(digits()));
        } else if (text.charAt(at) == '(') {
            at++;
            List<Item> inner = readRow();
            skip(" x");
            item = new Item(place, null, Integer.parseInt(digits()), inner, -1);
        } else {
            item = readStitches(place);
        }
        skip(" ");
        return item;
    }

    private String digits() {
        int first = at;
        skip("0123456789");
        return text.substring(first, at);
    }

    private Item readStitches(int place) {
        Matcher matcher = STITCHES.matcher(text);
        matcher.region(at, text.length());
        matcher.lookingAt();
        at = matcher.end();
        if (matcher.group(4) == null) {
            int a = Integer.parseInt(matcher.group(1));
            int b = Integer.parseInt(matcher.group(2));
            return new Item(place, new Stitch(matcher.group(3).equals("f") ? 10 : 11, a, b), 1, null, -1);
        }
        int kind = List.of(NAMES).indexOf(matcher.group(4));
        String count = matcher.group(5);
        return new Item(place, new Stitch(kind, 0, 0), count.isEmpty() ? 1 : Integer.parseInt(count), null, -1);
    }

    private static long takes(List<Item> items) {
        long sum = 0;
        for (Item item : items) {
            sum += item.count() * (item.inner() == null ? item.stitch().takes() : takes(item.inner()));
        }
        return sum;
    }

    private void knit(List<Item> items) throws Fault {
        for (Item item : items) {
            if (item.told() >= 0) {
                knitRepeat(item);
            } else {
                for (int i = 0; i < item.count(); i++) {
                    knitOnce(item);
                }
            }
        }
    }

    private void knitOnce(Item item) throws Fault {
        if (item.inner() == null) {
            knitStitch(item.stitch(), item.place());
        } else {
            knit(item.inner());
        }
    }

    private void knitRepeat(Item item) throws Fault {
        long takes = takes(item.inner());
        if (takes == 0) {
            throw new Fault(3, item.place());
        }
        for (long runs = 0; runs * takes <= left.size(); runs++) {
            if (left.size() - runs * takes == item.told()) {
                for (long run = 0; run < runs; run++) {
                    knit(item.inner());
                }
                return;
            }
        }
        throw new Fault(3, item.place());
    }

    private void knitStitch(Stitch stitch, int place) throws Fault {
        if (stitch.takes() > left.size()) {
            throw new Fault(4, place);
        }
        if (stitch.kind() == 8 && left.size() == 1 && made.isEmpty()) {
            throw new Fault(5, place);
        }
        if (ever.size() + stitch.makes() > 600) {
            throw new Fault(6, place);
        }
        List<Integer> taken = new ArrayList<>();
        for (int i = 0; i < stitch.takes(); i++) {
            taken.add(left.remove(0));
        }
        if (stitch.kind() >= 10) {
            Collections.rotate(taken, stitch.b());
            for (int parent : taken) {
                make(List.of(parent));
            }
        } else {
            for (int i = 0; i < stitch.makes(); i++) {
                make(taken);
            }
        }
        worked.add(stitch);
    }

    private void make(List<Integer> parents) {
        made.add(ever.size());
        ever.add(new Loop(rows() + 1, parents));
    }

    int rows() {
        return stitches.size();
    }

    void unravelOne() {
        int last = rows() - 1;
        loops = loopsBefore.remove(last);
        needle = needlesBefore.remove(last);
        stitches.remove(last);
    }

    List<Integer> needle() {
        return needle;
    }

    List<Loop> loops() {
        return loops;
    }

    int diedIn(int loop) {
        for (int row = rows(); row >= 1 && !needle.contains(loop); row--) {
            if (needlesBefore.get(row - 1).contains(loop)) {
                return row;
            }
        }
        return 0;
    }

    int ladder(int loop) {
        List<Integer> parents = loops.get(loop).parents();
        return parents.isEmpty() ? 1 : 1 + ladder(parents.get(0));
    }

    List<Stitch> stitches(int row) {
        return stitches.get(row - 1);
    }

    List<Integer> chart(int row) {
        List<Integer> codes = new ArrayList<>();
        boolean back = !round && row % 2 == 0;
        for (Stitch stitch : stitches(row)) {
            boolean swaps = back && stitch.kind() < 2;
            codes.add(swaps ? 1 - stitch.kind() : stitch.code());
        }
        if (back) {
            Collections.reverse(codes);
        }
        return codes;
    }

    Told shortest(int row) {
        return told(stitches(row), 0, new HashMap<>());
    }

    private static Told told(List<Stitch> part, int groups, Map<List<Object>, Told> known) {
        List<Object> key = List.of(groups, part);
        Told best = known.get(key);
        if (best != null) {
            return best;
        }
        int n = part.size();
        if (n == 1) {
            best = new Told(1, part.get(0).told());
        }
        for (int q = 1; q <= n / 2 && groups < 4; q++) {
            if (n % q == 0 && part.subList(0, n - q).equals(part.subList(q, n))) {
                Told inner = told(part.subList(0, q), groups + 1, known);
                best = fewer(best, inner.words() + 1, "(" + inner.text() + ")x" + n / q);
            }
        }
        for (int q = 1; q < n; q++) {
            Told first = told(part.subList(0, q), groups, known);
            Told others = told(part.subList(q, n), groups, known);
            best = fewer(best, first.words() + others.words(), first.text() + "," + others.text());
        }
        known.put(key, best);
        return best;
    }

    private static Told fewer(Told best, int words, String text) {
        return best == null || words < best.words() ? new Told(words, text) : best;
    }
}
