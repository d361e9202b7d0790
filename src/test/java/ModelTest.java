import java.util.ArrayList;
import java.util.List;
import java.util.Random;

/**
 * Long runs of calls, chosen by a random source with fixed seeds, on the class and on the model side
 * by side: every answer must be the same. At the end of each run everything that can be asked is asked.
 */
public final class ModelTest {
    private static final int RUNS = 6000;
    /** An object is used for 512 calls: so many by chance, the others at the end. */
    private static final int CALLS = 260;
    private static final int ALL_CALLS = 512;

    private static final Due due = new Due("ModelTest");

    private final Random random;
    private final NarrowRows rows = new NarrowRows();
    private final Model model = new Model();
    private final List<String> story = new ArrayList<>();
    private final int seed;
    /** Up to so many posts come; more than 7 are dear for the model, which writes all rows. */
    private final int most;
    /** Queries of best rows are asked one in so many times. */
    private final int rare;
    /** The net changes one in so many times. */
    private final int steady;

    private ModelTest(int seed, int most, int rare) {
        this.seed = seed;
        this.most = most;
        this.rare = rare;
        random = new Random(seed);
        steady = new int[] {2, 5, 20, 60}[below(4)];
    }

    public static void main(String[] args) {
        for (int seed = 0; seed < RUNS && !due.anyWrong(); seed++) {
            int most = seed % 20 == 0 ? 11 : seed % 50 == 1 ? 8 : 2 + seed % 6;
            new ModelTest(seed, most, most == 8 ? 12 : 1).run();
        }
        due.ending();
    }

    private int below(int bound) {
        return random.nextInt(bound);
    }

    private boolean one(int in) {
        return below(in) == 0;
    }

    /** A post, mostly one that there is. */
    private int somePost() {
        if (one(25)) {
            return below(2) == 0 ? -1 - below(3) : below(16);
        }
        return model.state.posts == 0 ? 0 : below(model.state.posts);
    }

    private void is(String call, int got, int want) {
        story.add(call + " -> " + got);
        if (got != want) {
            System.out.println("seed " + seed + ": " + story);
        }
        due.is("seed " + seed + ": " + call, got, want);
    }

    private void run() {
        int grow = 1 + below(most);
        for (int i = 0; i < grow; i++) {
            is("post()", rows.post(), model.post());
        }
        for (int i = 0; i < model.state.posts; i++) {
            if (!one(5)) {
                sheetCall(i);
            }
        }
        for (int i = 0; story.size() < CALLS && i < CALLS && !due.anyWrong(); i++) {
            // in some runs the net changes at every turn, in others it stands while all is asked
            if (i < steady / 2 || one(steady)) {
                netCall();
            } else {
                otherCall();
            }
        }
        if (!due.anyWrong()) {
            askAll();
        }
        due.holds("seed " + seed + ": calls of one object: " + story.size(), story.size() <= ALL_CALLS);
    }

    private void otherCall() {
        switch (below(6)) {
            case 0:
                handCall();
                break;
            case 1, 2:
                bestCall();
                break;
            case 3:
                bagCall();
                break;
            case 4:
                huntCall();
                break;
            default:
                askCall();
                break;
        }
    }

    private void sheetCall(int post) {
        int width = one(20) ? below(7) - 2 : below(3);
        int n = one(20) ? below(40) - 10 : one(4) ? below(12) : 11;
        is("sheet(" + post + ", " + width + ", " + n + ")", rows.sheet(post, width, n), model.sheet(post, width, n));
    }

    private void netCall() {
        int post = somePost();
        int other = somePost();
        switch (below(14)) {
            case 0:
                if (model.state.posts < most || most == 11) {
                    is("post()", rows.post(), model.post());
                }
                break;
            case 1:
                sheetCall(post);
                break;
            case 2:
                if (one(4)) {
                    is("lose(" + post + ")", rows.lose(post), model.lose(post));
                }
                break;
            case 3, 4, 5, 6, 7:
                int weight = one(12) ? new int[] {-1, 127, 128, 1000, 1001, 0}[below(6)] : 1 + below(one(3) ? 120 : 4);
                int place = one(15) ? below(16) - 3 : other;
                is("weigh(" + post + ", " + place + ", " + weight + ")",
                        rows.weigh(post, place, weight), model.weigh(post, place, weight));
                break;
            case 8:
                int many = below(14) - 1;
                is("copy(" + post + ", " + other + ", " + many + ")",
                        rows.copy(post, other, many), model.copy(post, other, many));
                break;
            case 9, 10:
                is("pair(" + post + ", " + other + ")", rows.pair(post, other), model.pair(post, other));
                break;
            case 11:
                is("part(" + post + ", " + other + ")", rows.part(post, other), model.part(post, other));
                break;
            default:
                is("undo()", rows.undo(), model.undo());
                break;
        }
    }

    private void handCall() {
        int size = model.hand.size();
        switch (below(8)) {
            case 0:
                is("begin()", rows.begin(), model.begin());
                break;
            case 1, 2:
                fillHand();
                break;
            case 3:
                int post = somePost();
                is("put(" + post + ")", rows.put(post), model.put(post));
                break;
            case 4:
                int at = below(size + 3) - 1;
                is("at(" + at + ")", rows.at(at), model.at(at));
                break;
            default:
                int place = one(10) ? below(size + 3) - 1 : below(size + 1);
                int to = one(10) ? below(size + 3) - 1 : below(size + 1);
                is("move(" + place + ", " + to + ")", rows.move(place, to), model.move(place, to));
                break;
        }
    }

    /** Puts the posts in any order, all of them or all but the last. */
    private void fillHand() {
        is("begin()", rows.begin(), model.begin());
        List<Integer> order = new ArrayList<>();
        for (int post = 0; post < model.state.posts; post++) {
            order.add(below(order.size() + 1), post);
        }
        for (int post : order) {
            if (!one(40)) {
                is("put(" + post + ")", rows.put(post), model.put(post));
            }
        }
    }

    private boolean dear(int cost) {
        boolean refused = cost < 0 || cost > 5 || (cost == 0 || cost == 4) && model.state.posts > 7;
        return !refused && (model.state.posts > 8 || !one(rare));
    }

    private void bestCall() {
        int cost = one(20) ? below(12) - 3 : below(6);
        switch (below(5)) {
            case 0:
                int n = one(10) ? below(70) - 4 : 1 + below(3);
                is("better(" + cost + ", " + n + ")", rows.better(cost, n), model.better(cost, n));
                return;
            case 1:
                if (!dear(cost)) {
                    is("least(" + cost + ")", rows.least(cost), model.least(cost));
                }
                return;
            case 2:
                if (!dear(cost)) {
                    is("many(" + cost + ")", rows.many(cost), model.many(cost));
                }
                return;
            case 3:
                if (!dear(cost)) {
                    int most = Math.max(1, model.many(cost));
                    int k = one(10) ? most + below(3) : one(10) ? -1 : below(most);
                    is("best(" + cost + ", " + k + ")", rows.best(cost, k), model.best(cost, k));
                    askRow();
                }
                return;
            default:
                if (!dear(cost)) {
                    is("number(" + cost + ")", rows.number(cost), model.number(cost));
                }
        }
    }

    private void askRow() {
        for (int place = -1; place <= model.hand.size(); place++) {
            is("at(" + place + ")", rows.at(place), model.at(place));
        }
    }

    private void bagCall() {
        switch (below(8)) {
            case 0:
                if (one(3)) {
                    is("empty()", rows.empty(), model.empty());
                }
                break;
            case 1:
                int wild = one(3) ? random.nextInt() : below(1 << model.state.posts + 1);
                is("lay(" + wild + ")", rows.lay(wild), model.lay(wild));
                break;
            case 2, 3:
                layBags();
                break;
            case 4:
                is("good()", rows.good(), model.good());
                break;
            case 5:
                is("rowOf()", rows.rowOf(), model.rowOf());
                break;
            default:
                askBag(below(model.state.posts + 3) - 1);
                break;
        }
    }

    private void askBag(int i) {
        is("bag(" + i + ")", rows.bag(i), model.bag(i));
    }

    /** Lays the bags of the row in hand, now and then with a fault. */
    private void layBags() {
        is("empty()", rows.empty(), model.empty());
        for (int i = 0; i < model.state.posts; i++) {
            int bits = model.bag(i);
            if (bits < 0) {
                bits = below(1 << model.state.posts);
            }
            if (one(6)) {
                bits ^= 1 << below(model.state.posts);
            }
            if (!one(12)) {
                is("lay(" + bits + ")", rows.lay(bits), model.lay(bits));
            }
        }
        is("good()", rows.good(), model.good());
    }

    private void huntCall() {
        switch (below(8)) {
            case 0:
                if (one(3)) {
                    is("calm()", rows.calm(), model.calm());
                }
                break;
            case 1:
                is("plan()", rows.plan(), model.plan());
                break;
            case 2, 3, 4:
                for (int i = 0; i < 8; i++) {
                    int move = (one(3) ? 100 : 0) + (one(12) ? below(14) - 1 : somePost());
                    is("hunt(" + move + ")", rows.hunt(move), model.hunt(move));
                }
                break;
            default:
                int what = one(15) ? below(9) - 3 : below(4);
                is("clean(" + what + ")", rows.clean(what), model.clean(what));
                break;
        }
    }

    private void askCall() {
        int post = somePost();
        int other = somePost();
        int cost = one(20) ? below(12) - 3 : below(6);
        switch (below(9)) {
            case 0:
                is("road(" + post + ", " + other + ")", rows.road(post, other), model.road(post, other));
                break;
            case 1, 2:
                int what = one(20) ? below(9) - 2 : below(5);
                is("about(" + post + ", " + what + ")", rows.about(post, what), model.about(post, what));
                break;
            case 3:
                is("cost(" + cost + ")", rows.cost(cost), model.cost(cost));
                break;
            case 4:
                is("where(" + cost + ")", rows.where(cost), model.where(cost));
                break;
            case 5:
                is("lawful()", rows.lawful(), model.lawful());
                break;
            case 6:
                int size = below(model.state.posts + 2);
                is("wall(" + cost + ", " + size + ")", rows.wall(cost, size), model.wall(cost, size));
                break;
            case 7:
                int set = below(model.state.posts + 2);
                is("stone(" + cost + ", " + set + ")", rows.stone(cost, set), model.stone(cost, set));
                break;
            default:
                int count = below(12) - 1;
                is("count(" + count + ")", rows.count(count), model.count(count));
                break;
        }
    }

    private void askAll() {
        int posts = model.state.posts;
        for (int what = -1; what <= 9; what++) {
            is("count(" + what + ")", rows.count(what), model.count(what));
        }
        for (int post = 0; post < posts; post++) {
            for (int what = 0; what <= 4; what++) {
                is("about(" + post + ", " + what + ")", rows.about(post, what), model.about(post, what));
            }
            for (int other = 0; other < post; other++) {
                is("road(" + post + ", " + other + ")", rows.road(post, other), model.road(post, other));
            }
            askBag(post);
        }
        for (int what = 0; what <= 3; what++) {
            is("clean(" + what + ")", rows.clean(what), model.clean(what));
        }
        is("good()", rows.good(), model.good());
        is("lawful()", rows.lawful(), model.lawful());
        for (int cost = 0; cost <= 5; cost++) {
            is("cost(" + cost + ")", rows.cost(cost), model.cost(cost));
            is("where(" + cost + ")", rows.where(cost), model.where(cost));
            if (posts < 8) {
                is("least(" + cost + ")", rows.least(cost), model.least(cost));
                is("many(" + cost + ")", rows.many(cost), model.many(cost));
                is("number(" + cost + ")", rows.number(cost), model.number(cost));
            }
        }
        for (int size = 1; size < posts; size++) {
            for (int cost = 1; cost <= 2; cost++) {
                is("wall(" + cost + ", " + size + ")", rows.wall(cost, size), model.wall(cost, size));
                is("stone(" + cost + ", " + size + ")", rows.stone(cost, size), model.stone(cost, size));
            }
        }
    }
}
