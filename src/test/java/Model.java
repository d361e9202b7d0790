import java.util.ArrayList;
import java.util.Arrays;
import java.util.HashMap;
import java.util.LinkedHashSet;
import java.util.List;
import java.util.Map;
import java.util.Set;
import java.util.TreeSet;

/**
 * The document once more, word for word and without any regard for speed: every row is written out,
 * every cost is reckoned from its own words. It shares nothing with the class under test.
 */
final class Model {
    static final int NONE = -1, BAD = -3, NO = -4, FULL = -5, LARGE = -6, NOTHING = -11, INDEX = -13, SIZE = -14;

    static final class Sheet {
        int width;
        int[] places;
    }

    static final class State {
        int posts;
        Sheet[] sheets = new Sheet[11];
        Set<List<Integer>> pairs = new LinkedHashSet<>();

        State twin() {
            State twin = new State();
            twin.posts = posts;
            twin.pairs.addAll(pairs);
            for (int i = 0; i < 11; i++) {
                if (sheets[i] != null) {
                    twin.sheets[i] = new Sheet();
                    twin.sheets[i].width = sheets[i].width;
                    twin.sheets[i].places = sheets[i].places.clone();
                }
            }
            return twin;
        }
    }

    State state = new State();
    final List<State> kept = new ArrayList<>();
    List<Integer> hand = new ArrayList<>();
    final List<Integer> bags = new ArrayList<>();
    List<Integer> moves = new ArrayList<>();

    /** The best rows for each cost, until the net changes. */
    private final Map<Integer, List<List<Integer>>> bestRows = new HashMap<>();

    // ---- the net

    private boolean is(int post) {
        return 0 <= post && post < state.posts;
    }

    private void change() {
        kept.add(state.twin());
        if (kept.size() > 8) {
            kept.remove(0);
        }
        bestRows.clear();
    }

    int post() {
        if (state.posts == 11) {
            return FULL;
        }
        change();
        return state.posts++;
    }

    int sheet(int post, int width, int n) {
        if (!is(post) || width < 0 || width > 2 || n > 11) {
            return BAD;
        }
        if (n < 0) {
            return SIZE;
        }
        change();
        state.sheets[post] = new Sheet();
        state.sheets[post].width = width;
        state.sheets[post].places = new int[n];
        return n;
    }

    int lose(int post) {
        if (!is(post)) {
            return BAD;
        }
        if (state.sheets[post] == null) {
            return NOTHING;
        }
        change();
        state.sheets[post] = null;
        return 0;
    }

    int weigh(int post, int place, int weight) {
        if (!is(post)) {
            return BAD;
        }
        if (state.sheets[post] == null) {
            return NOTHING;
        }
        if (place < 0 || place >= state.sheets[post].places.length) {
            return INDEX;
        }
        if (weight < 0 || weight > (state.sheets[post].width == 0 ? 127 : 1000)) {
            return BAD;
        }
        change();
        int was = state.sheets[post].places[place];
        state.sheets[post].places[place] = weight;
        return was;
    }

    int copy(int post, int to, int many) {
        if (!is(post) || !is(to)) {
            return BAD;
        }
        Sheet from = state.sheets[post];
        if (from == null || state.sheets[to] == null) {
            return NOTHING;
        }
        if (from.width != state.sheets[to].width) {
            return NO;
        }
        if (many < 0 || from.places.length < many || state.sheets[to].places.length < many) {
            return INDEX;
        }
        change();
        for (int i = 0; i < many; i++) {
            state.sheets[to].places[i] = state.sheets[post].places[i];
        }
        return many;
    }

    private Set<Integer> mustBeBehind(int post) {
        Set<Integer> found = new TreeSet<>();
        List<Integer> open = new ArrayList<>();
        open.add(post);
        while (!open.isEmpty()) {
            int next = open.remove(open.size() - 1);
            for (List<Integer> pair : state.pairs) {
                if (pair.get(0) == next && found.add(pair.get(1))) {
                    open.add(pair.get(1));
                }
            }
        }
        return found;
    }

    int pair(int post, int other) {
        if (!is(post) || !is(other) || post == other) {
            return BAD;
        }
        if (mustBeBehind(other).contains(post)) {
            return NO;
        }
        if (state.pairs.size() == 30) {
            return FULL;
        }
        change();
        state.pairs.add(List.of(post, other));
        return state.pairs.size();
    }

    int part(int post, int other) {
        if (!is(post) || !is(other) || post == other) {
            return BAD;
        }
        if (!state.pairs.contains(List.of(post, other))) {
            return NO;
        }
        change();
        state.pairs.remove(List.of(post, other));
        return state.pairs.size();
    }

    private int tells(int post, int other) {
        Sheet sheet = state.sheets[post];
        return sheet == null || other >= sheet.places.length ? 0 : sheet.places[other];
    }

    private int weight(int post, int other) {
        return post == other ? 0 : tells(post, other) + tells(other, post);
    }

    int road(int post, int other) {
        return !is(post) || !is(other) || post == other ? BAD : weight(post, other);
    }

    int about(int post, int what) {
        if (!is(post) || what < 0 || what > 4) {
            return BAD;
        }
        Sheet sheet = state.sheets[post];
        if (what == 0) {
            return sheet == null ? NONE : sheet.width;
        }
        if (what == 1) {
            return sheet == null ? 0 : sheet.places.length;
        }
        if (what == 4) {
            return mustBeBehind(post).size();
        }
        int roads = 0;
        int sum = 0;
        for (int other = 0; other < state.posts; other++) {
            roads += weight(post, other) > 0 ? 1 : 0;
            sum += weight(post, other);
        }
        return what == 2 ? roads : sum;
    }

    // ---- rows

    int begin() {
        int had = hand.size();
        hand = new ArrayList<>();
        return had;
    }

    int put(int post) {
        if (!is(post) || hand.contains(post)) {
            return BAD;
        }
        hand.add(post);
        return hand.size();
    }

    int at(int place) {
        return place < 0 || place >= hand.size() ? BAD : hand.get(place);
    }

    private static List<Integer> moved(List<Integer> row, int place, int to) {
        List<Integer> result = new ArrayList<>(row);
        Integer post = result.remove(place);
        result.add(to, post);
        return result;
    }

    int move(int place, int to) {
        if (place < 0 || place >= hand.size() || to < 0 || to >= hand.size()) {
            return BAD;
        }
        hand = moved(hand, place, to);
        return 0;
    }

    private boolean whole() {
        Set<Integer> all = new TreeSet<>();
        for (int post = 0; post < state.posts; post++) {
            all.add(post);
        }
        return hand.size() == all.size() && new TreeSet<>(hand).equals(all);
    }

    private boolean lawfulRow(List<Integer> row) {
        for (List<Integer> pair : state.pairs) {
            if (row.indexOf(pair.get(0)) > row.indexOf(pair.get(1))) {
                return false;
            }
        }
        return true;
    }

    private int cutBehind(List<Integer> row, int place) {
        int cut = 0;
        for (int i = 0; i <= place; i++) {
            for (int j = place + 1; j < row.size(); j++) {
                cut += weight(row.get(i), row.get(j));
            }
        }
        return cut;
    }

    private int openBehind(List<Integer> row, int place) {
        int bits = 0;
        for (int i = 0; i <= place; i++) {
            for (int j = place + 1; j < row.size(); j++) {
                if (weight(row.get(i), row.get(j)) > 0) {
                    bits |= 1 << row.get(i);
                }
            }
        }
        return bits;
    }

    private int heldBehind(List<Integer> row, int place) {
        Set<Integer> held = new TreeSet<>();
        for (int i = 0; i <= place; i++) {
            for (int j = place + 1; j < row.size(); j++) {
                if (state.pairs.contains(List.of(row.get(i), row.get(j)))) {
                    held.add(row.get(i));
                }
            }
        }
        return held.size();
    }

    private int costOf(int cost, List<Integer> row) {
        int n = row.size();
        int most = cost == 5 && n > 0 ? 1 : 0;
        int sum = 0;
        for (int i = 0; i + 1 < n; i++) {
            if (cost == 1) {
                most = Math.max(most, cutBehind(row, i));
            }
            if (cost == 2) {
                most = Math.max(most, Integer.bitCount(openBehind(row, i)));
            }
            if (cost == 5) {
                most = Math.max(most, heldBehind(row, i) + 1);
            }
            for (int j = i + 1; j < n; j++) {
                int weight = weight(row.get(i), row.get(j));
                if (cost == 0 && weight > 0) {
                    most = Math.max(most, j - i);
                }
                if (cost == 3) {
                    sum += weight * (j - i);
                }
                if (cost == 4) {
                    sum += weight * Math.min(j - i, n - (j - i));
                }
            }
        }
        return cost == 3 || cost == 4 ? sum : most;
    }

    int cost(int cost) {
        if (cost < 0 || cost > 5) {
            return BAD;
        }
        return whole() ? costOf(cost, hand) : NO;
    }

    int where(int cost) {
        if (cost < 0 || cost > 5 || cost == 3 || cost == 4) {
            return BAD;
        }
        if (!whole()) {
            return NO;
        }
        int is = costOf(cost, hand);
        for (int i = 0; i + 1 < hand.size(); i++) {
            boolean here = false;
            if (cost == 0) {
                for (int j = i + 1; j < hand.size(); j++) {
                    here |= weight(hand.get(i), hand.get(j)) > 0 && j - i == is;
                }
            } else if (cost == 1) {
                here = is > 0 && cutBehind(hand, i) == is;
            } else if (cost == 2) {
                here = is > 0 && Integer.bitCount(openBehind(hand, i)) == is;
            } else {
                here = is > 1 && heldBehind(hand, i) + 1 == is;
            }
            if (here) {
                return i;
            }
        }
        return NONE;
    }

    int lawful() {
        return !whole() ? NO : lawfulRow(hand) ? 1 : 0;
    }

    private void writeRows(List<Integer> sofar, List<List<Integer>> into) {
        if (sofar.size() == state.posts) {
            if (lawfulRow(sofar)) {
                into.add(new ArrayList<>(sofar));
            }
            return;
        }
        for (int post = 0; post < state.posts; post++) {
            if (!sofar.contains(post)) {
                sofar.add(post);
                writeRows(sofar, into);
                sofar.remove(sofar.size() - 1);
            }
        }
    }

    private List<List<Integer>> bestOf(int cost) {
        if (!bestRows.containsKey(cost)) {
            if (!bestRows.containsKey(-1)) {
                List<List<Integer>> rows = new ArrayList<>();
                writeRows(new ArrayList<>(), rows);
                bestRows.put(-1, rows);
            }
            int lowest = Integer.MAX_VALUE;
            List<List<Integer>> found = new ArrayList<>();
            for (List<Integer> row : bestRows.get(-1)) {
                int is = costOf(cost, row);
                if (is < lowest) {
                    lowest = is;
                    found.clear();
                }
                if (is == lowest) {
                    found.add(row);
                }
            }
            bestRows.put(cost, found);
        }
        return bestRows.get(cost);
    }

    private boolean large(int cost) {
        return (cost == 0 || cost == 4) && state.posts > 7;
    }

    int least(int cost) {
        if (cost < 0 || cost > 5) {
            return BAD;
        }
        return large(cost) ? LARGE : costOf(cost, bestOf(cost).get(0));
    }

    int many(int cost) {
        if (cost < 0 || cost > 5) {
            return BAD;
        }
        return large(cost) ? LARGE : bestOf(cost).size();
    }

    int best(int cost, int k) {
        if (cost < 0 || cost > 5 || k < 0) {
            return BAD;
        }
        if (large(cost)) {
            return LARGE;
        }
        if (k >= bestOf(cost).size()) {
            return NONE;
        }
        hand = new ArrayList<>(bestOf(cost).get(k));
        return hand.size();
    }

    int number(int cost) {
        if (cost < 0 || cost > 5) {
            return BAD;
        }
        if (!whole()) {
            return NO;
        }
        return large(cost) ? LARGE : bestOf(cost).indexOf(hand);
    }

    int better(int cost, int n) {
        if (cost < 0 || cost > 5 || n < 1 || n > 60) {
            return BAD;
        }
        if (!whole()) {
            return NO;
        }
        for (int done = 0; done < n; done++) {
            List<Integer> chosen = null;
            int lowest = costOf(cost, hand);
            for (int place = 0; place < hand.size(); place++) {
                for (int to = 0; to < hand.size(); to++) {
                    List<Integer> row = moved(hand, place, to);
                    if (lawfulRow(row) && costOf(cost, row) < lowest) {
                        lowest = costOf(cost, row);
                        chosen = row;
                    }
                }
            }
            if (chosen == null) {
                return done;
            }
            hand = chosen;
        }
        return n;
    }

    // ---- walls, bags

    private int wallOrStone(int cost, int size, boolean stone) {
        if (cost != 1 && cost != 2 || size < 1 || size > state.posts - 1) {
            return BAD;
        }
        int lowest = Integer.MAX_VALUE;
        int found = 0;
        for (int set = 0; set < 1 << state.posts; set++) {
            List<Integer> row = new ArrayList<>();
            for (int post = 0; post < state.posts; post++) {
                row.add((set >> post & 1) == 1 ? 0 : row.size(), post);
            }
            if (Integer.bitCount(set) == size) {
                int is = cost == 1 ? cutBehind(row, size - 1) : Integer.bitCount(openBehind(row, size - 1));
                if (is < lowest) {
                    lowest = is;
                    found = set;
                }
            }
        }
        return stone ? found : lowest;
    }

    int wall(int cost, int size) {
        return wallOrStone(cost, size, false);
    }

    int stone(int cost, int size) {
        return wallOrStone(cost, size, true);
    }

    private int bagBits(int i) {
        return 1 << hand.get(i) | (i == 0 ? 0 : openBehind(hand, i - 1));
    }

    int bag(int i) {
        if (i < 0 || i >= state.posts) {
            return BAD;
        }
        return whole() ? bagBits(i) : NO;
    }

    int lay(int bits) {
        if (bits < 0) {
            return BAD;
        }
        for (int post = state.posts; post < 31; post++) {
            if ((bits >> post & 1) == 1) {
                return BAD;
            }
        }
        if (bags.size() == 20) {
            return FULL;
        }
        bags.add(bits);
        return bags.size();
    }

    int empty() {
        int were = bags.size();
        bags.clear();
        return were;
    }

    private List<Integer> bagsWith(int post) {
        List<Integer> found = new ArrayList<>();
        for (int i = 0; i < bags.size(); i++) {
            if ((bags.get(i) >> post & 1) == 1) {
                found.add(i);
            }
        }
        return found;
    }

    int good() {
        for (int post = 0; post < state.posts; post++) {
            if (bagsWith(post).isEmpty()) {
                return 100 + post;
            }
        }
        for (int one = 0; one < state.posts; one++) {
            for (int other = one + 1; other < state.posts; other++) {
                List<Integer> both = bagsWith(one);
                both.retainAll(bagsWith(other));
                if (weight(one, other) > 0 && both.isEmpty()) {
                    return 200 + 11 * one + other;
                }
            }
        }
        for (int post = 0; post < state.posts; post++) {
            List<Integer> those = bagsWith(post);
            for (int i = 1; i < those.size(); i++) {
                if (those.get(i) != those.get(i - 1) + 1) {
                    return 400 + post;
                }
            }
        }
        return 0;
    }

    int rowOf() {
        if (good() != 0) {
            return NO;
        }
        List<int[]> byBag = new ArrayList<>();
        for (int post = 0; post < state.posts; post++) {
            byBag.add(new int[] {bagsWith(post).get(0), post});
        }
        byBag.sort((a, b) -> a[0] != b[0] ? a[0] - b[0] : a[1] - b[1]);
        hand = new ArrayList<>();
        for (int[] entry : byBag) {
            hand.add(entry[1]);
        }
        int most = 0;
        for (int bag : bags) {
            int posts = 0;
            for (int post = 0; post < state.posts; post++) {
                posts += bag >> post & 1;
            }
            most = Math.max(most, posts);
        }
        return most;
    }

    // ---- hunts

    int hunt(int move) {
        if (!(move >= 0 && move <= 10 || move >= 100 && move <= 110)) {
            return BAD;
        }
        if (moves.size() == 60) {
            return FULL;
        }
        moves.add(move);
        return moves.size();
    }

    int calm() {
        int had = moves.size();
        moves = new ArrayList<>();
        return had;
    }

    int plan() {
        if (!whole()) {
            return NO;
        }
        List<Integer> planned = new ArrayList<>();
        int before = 0;
        for (int i = 0; i <= hand.size(); i++) {
            int now = i == hand.size() ? 0 : bagBits(i);
            for (int post = 0; post < 11; post++) {
                if ((before >> post & 1) == 1 && (now >> post & 1) == 0) {
                    planned.add(100 + post);
                }
            }
            for (int post = 0; post < 11; post++) {
                if ((before >> post & 1) == 0 && (now >> post & 1) == 1) {
                    planned.add(post);
                }
            }
            before = now;
        }
        if (planned.size() > 60) {
            return FULL;
        }
        moves = planned;
        return moves.size();
    }

    int clean(int what) {
        if (what < 0 || what > 3) {
            return BAD;
        }
        List<int[]> roads = new ArrayList<>();
        for (int one = 0; one < state.posts; one++) {
            for (int other = one + 1; other < state.posts; other++) {
                if (weight(one, other) > 0) {
                    roads.add(new int[] {one, other});
                }
            }
        }
        boolean[] foul = new boolean[roads.size()];
        Arrays.fill(foul, true);
        boolean[] searcher = new boolean[11];
        int most = 0;
        int again = 0;
        int idle = 0;
        for (int move : moves) {
            int post = move % 100;
            boolean comes = move < 100;
            if (!is(post) || searcher[post] == comes) {
                idle++;
                continue;
            }
            searcher[post] = comes;
            int now = 0;
            for (boolean there : searcher) {
                now += there ? 1 : 0;
            }
            most = Math.max(most, now);
            for (int i = 0; i < foul.length; i++) {
                if (searcher[roads.get(i)[0]] && searcher[roads.get(i)[1]]) {
                    foul[i] = false;
                }
            }
            boolean more = true;
            while (more) {
                more = false;
                for (int i = 0; i < foul.length; i++) {
                    for (int j = 0; j < foul.length && !foul[i]; j++) {
                        if (foul[j] && meetOpenly(roads.get(i), roads.get(j), searcher)) {
                            foul[i] = true;
                            again++;
                            more = true;
                        }
                    }
                }
            }
        }
        int left = 0;
        for (boolean is : foul) {
            left += is ? 1 : 0;
        }
        return new int[] {left, most, again, idle}[what];
    }

    private static boolean meetOpenly(int[] one, int[] other, boolean[] searcher) {
        for (int a : one) {
            for (int b : other) {
                if (a == b && !searcher[a]) {
                    return true;
                }
            }
        }
        return false;
    }

    int undo() {
        if (kept.isEmpty()) {
            return NO;
        }
        state = kept.remove(kept.size() - 1);
        bestRows.clear();
        return kept.size();
    }

    int count(int what) {
        int roads = 0;
        int sum = 0;
        int sheets = 0;
        for (int one = 0; one < state.posts; one++) {
            sheets += state.sheets[one] != null ? 1 : 0;
            for (int other = one + 1; other < state.posts; other++) {
                roads += weight(one, other) > 0 ? 1 : 0;
                sum += weight(one, other);
            }
        }
        int[] all = {state.posts, roads, state.pairs.size(), sheets, hand.size(), bags.size(), moves.size(),
            kept.size(), sum};
        return what < 0 || what >= all.length ? BAD : all[what];
    }
}
