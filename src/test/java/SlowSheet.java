import java.util.ArrayList;
import java.util.Arrays;
import java.util.List;
import java.util.regex.Matcher;
import java.util.regex.Pattern;

/** The document's promises, written down word by word and slowly: every sheet is made anew from its facts. */
final class SlowSheet {
    static final int NO_SUCH = -1, BAD_VALUE = -2, BAD_TEXT = -3, TOO_MANY = -4, NOT_POSSIBLE = -5, NONE = -6;
    private static final Pattern TEXT = Pattern.compile("(O(;O)*)".replace("O",
            "(h[0-4][abc][0-5]|[rs][0-4][0-5]{3}|w[0-5]{3}|-(0|[1-9][0-9]?))"));

    /** A fact: its kind, its player (5 for WRONG), and its cards. */
    record Fact(int kind, int player, List<Integer> cards) { }

    record State(int players, List<Fact> facts) { }

    /** Marks of a state; [owner][card] holds 0, or round * 10 + rule. */
    static final class Result {
        final int[][] yes = new int[6][18];
        final int[][] no = new int[6][18];
        int rounds;
        boolean broken;

        int total() {
            return sum(yes) + sum(no);
        }

        static int sum(int[][] marks) {
            int sum = 0;
            for (int[] row : marks) {
                for (int mark : row) {
                    sum += mark != 0 ? 1 : 0;
                }
            }
            return sum;
        }
    }

    private State state = new State(3, List.of());
    private final List<State> history = new ArrayList<>();
    private final State[] slots = new State[2];
    private String pad = "";
    private Result result = deduce(state, -1, -1, 0);

    private static int hand(State s, int owner) {
        int size = 0;
        for (int i = 0; i < 15; i++) {
            size += i % s.players == owner ? 1 : 0;
        }
        return size;
    }

    private static List<Integer> owners(State s) {
        List<Integer> all = new ArrayList<>();
        for (int i = 0; i < s.players; i++) {
            all.add(i);
        }
        all.add(5);
        return all;
    }

    /** Groups of which a known number is the owner's: {owner, how many, first card, card behind the last}. */
    private static List<int[]> groups(State s) {
        List<int[]> all = new ArrayList<>();
        for (int i = 0; i < s.players; i++) {
            all.add(new int[] {i, hand(s, i), 0, 18});
        }
        for (int k = 0; k < 3; k++) {
            all.add(new int[] {5, 1, 6 * k, 6 * k + 6});
        }
        return all;
    }

    /** The marks of a state, and one more, "yes" (1) or "no" (2), if there is one. */
    private static Result deduce(State s, int moreOwner, int moreCard, int more) {
        Result r = new Result();
        while (true) {
            int[][] yes = new int[6][18];
            int[][] no = new int[6][18];
            if (more != 0) {
                note(more == 1 ? yes : no, moreOwner, moreCard, 1);
            }
            applyAll(s, r, yes, no);
            if (!merge(r.yes, yes, r.rounds + 1) & !merge(r.no, no, r.rounds + 1)) {
                break;
            }
            r.rounds++;
        }
        r.broken = isBroken(s, r);
        return r;
    }

    private static void note(int[][] marks, int owner, int card, int rule) {
        if (marks[owner][card] == 0 || marks[owner][card] > rule) {
            marks[owner][card] = rule;
        }
    }

    private static boolean merge(int[][] marks, int[][] made, int round) {
        boolean any = false;
        for (int o = 0; o < 6; o++) {
            for (int c = 0; c < 18; c++) {
                if (marks[o][c] == 0 && made[o][c] != 0) {
                    marks[o][c] = round * 10 + made[o][c];
                    any = true;
                }
            }
        }
        return any;
    }

    private static void applyAll(State s, Result r, int[][] yes, int[][] no) {
        for (Fact f : s.facts) {
            for (int card : f.cards) {
                if (f.kind == 0) {
                    note(yes, f.player, card, 1);
                } else if (f.kind == 1) {
                    note(no, f.player, card, 1);
                }
            }
            for (int other : f.kind < 2 ? List.<Integer>of() : f.cards) {
                int[] against = (f.kind == 2 ? r.no : r.yes)[f.player];
                long marked = f.cards.stream().filter(card -> against[card] != 0).count();
                if (marked == 2 && against[other] == 0) {
                    note(f.kind == 2 ? yes : no, f.player, other, f.kind == 2 ? 6 : 7);
                }
            }
        }
        for (int card = 0; card < 18; card++) {
            int noes = 0;
            for (int o : owners(s)) {
                noes += r.no[o][card] != 0 ? 1 : 0;
                for (int p : owners(s)) {
                    if (p != o && r.yes[o][card] != 0) {
                        note(no, p, card, 2);
                    }
                }
            }
            for (int o : owners(s)) {
                if (noes == owners(s).size() - 1 && r.no[o][card] == 0) {
                    note(yes, o, card, 3);
                }
            }
        }
        for (int[] g : groups(s)) {
            int yeses = inGroup(r.yes, g);
            int open = g[3] - g[2] - inGroup(r.no, g);
            for (int card = g[2]; card < g[3]; card++) {
                if (yeses >= g[1] && r.yes[g[0]][card] == 0) {
                    note(no, g[0], card, 4);
                }
                if (open <= g[1] && r.no[g[0]][card] == 0) {
                    note(yes, g[0], card, 5);
                }
            }
        }
    }

    private static int inGroup(int[][] marks, int[] g) {
        int sum = 0;
        for (int card = g[2]; card < g[3]; card++) {
            sum += marks[g[0]][card] != 0 ? 1 : 0;
        }
        return sum;
    }

    private static boolean isBroken(State s, Result r) {
        boolean broken = false;
        for (int card = 0; card < 18; card++) {
            boolean everybody = true;
            for (int o : owners(s)) {
                broken |= r.yes[o][card] != 0 && r.no[o][card] != 0;
                everybody &= r.no[o][card] != 0;
            }
            broken |= everybody;
        }
        for (int[] g : groups(s)) {
            broken |= inGroup(r.yes, g) > g[1] || g[3] - g[2] - inGroup(r.no, g) < g[1];
        }
        for (Fact f : s.facts) {
            broken |= f.kind == 2 && f.cards.stream().allMatch(card -> r.no[f.player][card] != 0);
            broken |= f.kind == 3 && f.cards.stream().allMatch(card -> r.yes[5][card] != 0);
        }
        return broken;
    }

    private void change(State next) {
        history.add(state);
        if (history.size() > 6) {
            history.remove(0);
        }
        become(next);
    }

    private void become(State next) {
        state = next;
        result = deduce(next, -1, -1, 0);
    }

    private static State with(State s, Fact f) {
        List<Fact> facts = new ArrayList<>(s.facts);
        facts.add(f);
        return new State(s.players, facts);
    }

    private static boolean in(int number, int bound) {
        return number >= 0 && number < bound;
    }

    private static List<Integer> three(int a, int b, int c) {
        return Arrays.asList(a, 6 + b, 12 + c);
    }

    /** A fact and an error, or 0. */
    private int told(Fact f) {
        if (state.facts.size() >= 40) {
            return TOO_MANY;
        }
        change(with(state, f));
        return result.total();
    }

    int begin(int players) {
        if (players < 2 || players > 5) {
            return BAD_VALUE;
        }
        int before = state.facts.size();
        change(new State(players, List.of()));
        return before;
    }

    int holds(int player, int card) {
        return in(player, state.players) && in(card, 18) ? told(new Fact(0, player, List.of(card))) : NO_SUCH;
    }

    private int answerError(int player, int shows, int a, int b, int c) {
        if (!in(player, state.players) || !in(a, 6) || !in(b, 6) || !in(c, 6)) {
            return NO_SUCH;
        }
        return in(shows, 2) ? 0 : BAD_VALUE;
    }

    int answers(int player, int shows, int a, int b, int c) {
        int error = answerError(player, shows, a, b, c);
        return error != 0 ? error : told(new Fact(1 + shows, player, three(a, b, c)));
    }

    int wrong(int a, int b, int c) {
        return in(a, 6) && in(b, 6) && in(c, 6) ? told(new Fact(3, 5, three(a, b, c))) : NO_SUCH;
    }

    int takeBack(int fact) {
        if (!in(fact, state.facts.size())) {
            return NO_SUCH;
        }
        List<Fact> facts = new ArrayList<>(state.facts);
        facts.remove(fact);
        change(new State(state.players, facts));
        return facts.size();
    }

    int mark(int owner, int card, int what) {
        if (!owners(state).contains(owner) || !in(card, 18)) {
            return NO_SUCH;
        }
        int yes = result.yes[owner][card];
        int no = result.no[owner][card];
        switch (what) {
            case 0: return (yes != 0 ? 1 : 0) + (no != 0 ? 2 : 0);
            case 1: return yes == 0 ? NONE : yes / 10;
            case 2: return yes == 0 ? NONE : yes % 10;
            case 3: return no == 0 ? NONE : no / 10;
            case 4: return no == 0 ? NONE : no % 10;
            default: return BAD_VALUE;
        }
    }

    int ofOwner(int owner, int what) {
        if (!owners(state).contains(owner)) {
            return NO_SUCH;
        }
        if (what == 0) {
            return owner == 5 ? 3 : hand(state, owner);
        }
        if (!in(what, 4)) {
            return BAD_VALUE;
        }
        int set = 0;
        for (int card = 0; card < 18; card++) {
            boolean yes = result.yes[owner][card] != 0;
            boolean no = result.no[owner][card] != 0;
            if (what == 1 && yes || what == 2 && no || what == 3 && !yes && !no) {
                set += 1 << card;
            }
        }
        return set;
    }

    int ofFact(int fact, int what) {
        if (!in(fact, state.facts.size())) {
            return NO_SUCH;
        }
        Fact f = state.facts.get(fact);
        if (!in(what, 5)) {
            return BAD_VALUE;
        }
        if (what < 2) {
            return what == 0 ? f.kind : f.kind == 3 ? NONE : f.player;
        }
        return what - 2 < f.cards.size() ? f.cards.get(what - 2) : NONE;
    }

    int count(int what) {
        switch (what) {
            case 0: return state.players;
            case 1: return state.facts.size();
            case 2: return Result.sum(result.yes);
            case 3: return Result.sum(result.no);
            case 4: return owners(state).stream().mapToInt(o -> Integer.bitCount(ofOwner(o, 3))).sum();
            case 5: return result.rounds;
            case 6: return result.broken ? 1 : 0;
            case 7: return (envelope(0, 0) >= 0 ? 1 : 0) + (envelope(1, 0) >= 0 ? 1 : 0) + (envelope(2, 0) >= 0 ? 1 : 0);
            case 8: return pad.length();
            case 9: return history.size();
            default: return BAD_VALUE;
        }
    }

    int envelope(int kind, int what) {
        if (!in(kind, 3)) {
            return NO_SUCH;
        }
        if (!in(what, 2)) {
            return BAD_VALUE;
        }
        int set = 0;
        for (int card = 6 * kind + 5; card >= 6 * kind; card--) {
            set += result.no[5][card] == 0 ? 1 << card : 0;
        }
        if (what == 1) {
            return set;
        }
        for (int card = 6 * kind; card < 6 * kind + 6; card++) {
            if (result.yes[5][card] != 0) {
                return card;
            }
        }
        return NONE;
    }

    int gain(int player, int shows, int a, int b, int c) {
        int error = answerError(player, shows, a, b, c);
        if (error != 0) {
            return error;
        }
        Result then = deduce(with(state, new Fact(1 + shows, player, three(a, b, c))), -1, -1, 0);
        return then.broken ? NONE : then.total() - result.total();
    }

    int must(int owner, int card) {
        if (!owners(state).contains(owner) || !in(card, 18)) {
            return NO_SUCH;
        }
        boolean byNo = deduce(state, owner, card, 2).broken;
        boolean byYes = deduce(state, owner, card, 1).broken;
        return byNo && byYes ? 3 : byYes ? 2 : byNo ? 1 : 0;
    }

    int deeper() {
        int found = 0;
        for (int o : owners(state)) {
            for (int card = 0; card < 18; card++) {
                found += mark(o, card, 0) == 0 && must(o, card) != 0 ? 1 : 0;
            }
        }
        return found;
    }

    int bestQuestion(int player, int what) {
        if (!in(player, state.players)) {
            return NO_SUCH;
        }
        if (!in(what, 4)) {
            return BAD_VALUE;
        }
        int[] best = {0, 0, 0, -1};
        for (int q = 0; q < 216; q++) {
            int no = gain(player, 0, q / 36, q / 6 % 6, q % 6);
            int yes = gain(player, 1, q / 36, q / 6 % 6, q % 6);
            int lesser = no == NONE && yes == NONE ? 0 : no == NONE ? yes : yes == NONE ? no : Math.min(no, yes);
            if (lesser > best[3]) {
                best = new int[] {q / 36, q / 6 % 6, q % 6, lesser};
            }
        }
        return best[what];
    }

    int put(long characters) {
        StringBuilder text = new StringBuilder();
        for (int i = 7; i >= 0; i--) {
            char c = (char) (characters >>> 8 * i & 255);
            if (c != 0 || text.length() > 0) {
                text.append(c);
            }
        }
        if (text.length() == 0 || text.chars().anyMatch(c -> c < 33 || c > 126)) {
            return BAD_VALUE;
        }
        if (pad.length() + text.length() > 80) {
            return TOO_MANY;
        }
        pad += text;
        return pad.length();
    }

    int wipe() {
        int before = pad.length();
        pad = "";
        return before;
    }

    int fault() {
        for (int i = 1; i <= pad.length(); i++) {
            Matcher matcher = TEXT.matcher(pad.substring(0, i));
            if (!matcher.matches() && !matcher.hitEnd()) {
                return i - 1;
            }
        }
        return TEXT.matcher(pad).matches() ? NONE : pad.length();
    }

    int carryOut() {
        if (fault() != NONE) {
            return BAD_TEXT;
        }
        State before = state;
        List<State> kept = new ArrayList<>(history);
        int done = 0;
        for (String order : pad.split(";")) {
            if (carryOut(order) < 0) {
                break;
            }
            done++;
        }
        State after = state;
        history.clear();
        history.addAll(kept);
        state = before;
        change(after);
        pad = "";
        return done;
    }

    private int carryOut(String order) {
        if (order.charAt(0) == '-') {
            return takeBack(Integer.parseInt(order.substring(1)));
        }
        int[] n = order.substring(1).chars().map(c -> c >= 'a' ? 6 * (c - 'a') : c - '0').toArray();
        switch (order.charAt(0)) {
            case 'h': return holds(n[0], n[1] + n[2]);
            case 'r': return answers(n[0], 0, n[1], n[2], n[3]);
            case 's': return answers(n[0], 1, n[1], n[2], n[3]);
            default: return wrong(n[0], n[1], n[2]);
        }
    }

    int undo() {
        if (history.isEmpty()) {
            return NOT_POSSIBLE;
        }
        become(history.remove(history.size() - 1));
        return history.size();
    }

    int save(int slot) {
        if (!in(slot, 2)) {
            return BAD_VALUE;
        }
        slots[slot] = state;
        return state.facts.size();
    }

    int restore(int slot) {
        if (!in(slot, 2)) {
            return BAD_VALUE;
        }
        if (slots[slot] == null) {
            return NOT_POSSIBLE;
        }
        change(slots[slot]);
        return state.facts.size();
    }
}
