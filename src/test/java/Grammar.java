import java.util.ArrayList;
import java.util.LinkedHashSet;
import java.util.List;
import java.util.Set;

/**
 * The document's grammar as a net of states, written out to the fourth bracket. A byte is the first
 * with which a text can't be right when no state is left behind it: no rule of the program's reader
 * stands here again.
 */
final class Grammar {
    private static final int MOST_DEPTH = 4;

    private static final class State {
        final List<String> signs = new ArrayList<>();
        final List<State> targets = new ArrayList<>();

        /** Any one of the signs leads on; without signs the way is free. */
        void add(String oneOf, State target) {
            signs.add(oneOf);
            targets.add(target);
        }
    }

    private final State start = new State();
    private final State end = new State();
    private final State tooDeep = new State();

    Grammar() {
        State item = new State();
        State behindItem = new State();
        State behindCast = word(start, "cast");
        start.add(" ", start);
        start.add("", item);
        count(behindCast, behindItem);
        items(item, behindItem, 0);
        rowOf(item, behindItem, end);
    }

    /** The fault and place of a text as work answers them, 0 when it is right. */
    int fault(String text) {
        Set<State> states = freely(Set.of(start));
        for (int place = 0; place < text.length(); place++) {
            Set<State> next = new LinkedHashSet<>();
            for (State state : states) {
                follow(state, text.charAt(place), next);
            }
            states = freely(next);
            if (states.contains(tooDeep)) {
                return -2000 - place;
            }
            if (states.isEmpty()) {
                return -1000 - place;
            }
        }
        return states.contains(end) ? 0 : -1000 - text.length();
    }

    private static void follow(State state, char sign, Set<State> next) {
        for (int i = 0; i < state.signs.size(); i++) {
            if (state.signs.get(i).indexOf(sign) >= 0) {
                next.add(state.targets.get(i));
            }
        }
    }

    private static Set<State> freely(Set<State> states) {
        List<State> all = new ArrayList<>(states);
        for (int k = 0; k < all.size(); k++) {
            State state = all.get(k);
            for (int i = 0; i < state.signs.size(); i++) {
                if (state.signs.get(i).isEmpty() && !all.contains(state.targets.get(i))) {
                    all.add(state.targets.get(i));
                }
            }
        }
        return new LinkedHashSet<>(all);
    }

    /** Blanks, commas that lead back to an item, and the way out. */
    private static void rowOf(State item, State behindItem, State out) {
        State behindComma = new State();
        behindItem.add(" ", behindItem);
        behindItem.add(",", behindComma);
        behindComma.add(" ", behindComma);
        behindComma.add("", item);
        behindItem.add("", out);
    }

    private void items(State from, State to, int depth) {
        for (String name : new String[] {"k", "p", "sl", "yo", "bind"}) {
            State behind = word(from, name);
            behind.add("", to);
            count(behind, to);
        }
        for (String name : new String[] {"k2tog", "ssk", "k3tog", "kfb"}) {
            word(from, name).add("", to);
        }
        State a = chain(word(from, "c"), "12345");
        chain(chain(word(a, "/"), "12345"), "fb").add("", to);
        group(from, to, depth);
        if (depth == 0) {
            repeat(from, to);
        }
    }

    private void group(State from, State to, int depth) {
        if (depth == MOST_DEPTH) {
            from.add("(", tooDeep);
            return;
        }
        State x = word(brackets(from, depth + 1), "x");
        x.add("23456789", to);
        chain(x, "123456789").add("0123456789", to);
    }

    private void repeat(State from, State to) {
        State behind = brackets(blanks(word(from, "rep")), 1);
        State number = blanks(word(blanks(word(behind, "to")), "last"));
        number.add("0", to);
        count(number, to);
    }

    /** The brackets with their row; the answer is behind them and the blanks there. */
    private State brackets(State from, int depth) {
        State first = blanks(word(from, "("));
        State behindItem = new State();
        State last = new State();
        items(first, behindItem, depth);
        rowOf(first, behindItem, last);
        return blanks(word(last, ")"));
    }

    private static void count(State from, State to) {
        from.add("123456789", to);
        chain(from, "123456789").add("0123456789", to);
    }

    private static State blanks(State from) {
        State behind = new State();
        from.add(" ", from);
        from.add("", behind);
        return behind;
    }

    private static State word(State from, String text) {
        State at = from;
        for (char sign : text.toCharArray()) {
            at = chain(at, String.valueOf(sign));
        }
        return at;
    }

    private static State chain(State from, String oneOf) {
        State behind = new State();
        from.add(oneOf, behind);
        return behind;
    }
}
