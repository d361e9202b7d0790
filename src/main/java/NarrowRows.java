import java.util.Arrays;

/**
 * A bench that lays the posts of a net in one row. The document's promises say what each call
 * answers; the names of things (CUT, OPEN, HELD, WALL, BAG, HUNT) are the document's.
 *
 * <p>Sets of posts are bits of an int: bit p stands for post p. All arrays are made with the object
 * and used again, so that no call makes anything.
 */
public final class NarrowRows {
    public static final int NONE = -1, BAD = -3, NO = -4, FULL = -5, LARGE = -6, NOTHING = -11, INDEX = -13, SIZE = -14;

    private static final int POSTS = 11;
    private static final int SETS = 1 << POSTS;
    private static final int PAIRS = 30;
    private static final int BAGS = 20;
    private static final int MOVES = 60;
    private static final int KEPT = 8;
    private static final int TURNS = 60;

    private static final int SPAN = 0;
    private static final int CUTS = 1;
    private static final int OPENS = 2;
    private static final int SUM = 3;
    private static final int ROUND = 4;
    private static final int CELLS = 5;

    /** With more posts than these, rows are too many to be tried one by one. */
    private static final int TRIED = 7;
    private static final int TRIED_ROWS = 5040;
    private static final int CODE_BITS = 3;

    private static final int BYTES = 0;
    private static final int INTS = 2;
    private static final int BYTE_MOST = 127;
    private static final int WEIGHT_MOST = 1000;

    /** In a hunt, a move of this and a post takes the searcher of that post away. */
    private static final int LEAVE = 100;

    /** Above every cost that a row can have. */
    private static final int FAR = 1 << 30;

    private final Net net;
    private final View view;
    private final History history;
    private final Row hand;
    private final Row trial;
    private final Bags bags;
    private final Chase chase;
    private final Costs costs;
    private final SetSearch sets;
    private final TrialSearch trials;

    public NarrowRows() {
        net = new Net();
        view = new View();
        history = new History();
        hand = new Row();
        trial = new Row();
        bags = new Bags();
        chase = new Chase();
        costs = new Costs(view);
        sets = new SetSearch(view, costs);
        trials = new TrialSearch(view, costs);
    }

    // ---- the net

    public int post() {
        if (net.posts >= POSTS) {
            return FULL;
        }
        history.keep(net);
        net.posts++;
        refresh();
        return net.posts - 1;
    }

    public int sheet(int post, int width, int n) {
        if (!net.has(post) || width < BYTES || width > INTS || n > POSTS) {
            return BAD;
        }
        if (n < 0) {
            return SIZE;
        }
        history.keep(net);
        net.renewSheet(post, width, n);
        refresh();
        return n;
    }

    public int lose(int post) {
        if (!net.has(post)) {
            return BAD;
        }
        if (net.isMissing(post)) {
            return NOTHING;
        }
        history.keep(net);
        net.renewSheet(post, NONE, 0);
        refresh();
        return 0;
    }

    public int weigh(int post, int place, int weight) {
        if (!net.has(post)) {
            return BAD;
        }
        if (net.isMissing(post)) {
            return NOTHING;
        }
        if (place < 0 || place >= net.lengths[post]) {
            return INDEX;
        }
        if (weight < 0 || weight > heaviest(net.widths[post])) {
            return BAD;
        }
        history.keep(net);
        int was = net.told[post * POSTS + place];
        net.told[post * POSTS + place] = weight;
        refresh();
        return was;
    }

    public int copy(int post, int to, int many) {
        if (!net.has(post) || !net.has(to)) {
            return BAD;
        }
        if (net.isMissing(post) || net.isMissing(to)) {
            return NOTHING;
        }
        if (net.widths[post] != net.widths[to]) {
            return NO;
        }
        if (many < 0 || many > net.lengths[post] || many > net.lengths[to]) {
            return INDEX;
        }
        history.keep(net);
        System.arraycopy(net.told, post * POSTS, net.told, to * POSTS, many);
        refresh();
        return many;
    }

    public int pair(int post, int other) {
        if (!net.hasBoth(post, other)) {
            return BAD;
        }
        if (holds(net.allBehind(other), post)) {
            return NO;
        }
        if (net.pairs >= PAIRS) {
            return FULL;
        }
        history.keep(net);
        if (!holds(net.behind[post], other)) {
            net.behind[post] |= 1 << other;
            net.pairs++;
        }
        refresh();
        return net.pairs;
    }

    public int part(int post, int other) {
        if (!net.hasBoth(post, other)) {
            return BAD;
        }
        if (!holds(net.behind[post], other)) {
            return NO;
        }
        history.keep(net);
        net.behind[post] &= ~(1 << other);
        net.pairs--;
        refresh();
        return net.pairs;
    }

    public int road(int post, int other) {
        if (!net.hasBoth(post, other)) {
            return BAD;
        }
        return view.weightOf(post, other);
    }

    public int about(int post, int what) {
        if (!net.has(post)) {
            return BAD;
        }
        switch (what) {
            case 0:
                return net.widths[post];
            case 1:
                return net.lengths[post];
            case 2:
                return Integer.bitCount(view.near[post]);
            case 3:
                return view.weightAt(post);
            case 4:
                return Integer.bitCount(net.allBehind(post));
            default:
                return BAD;
        }
    }

    // ---- rows

    public int begin() {
        int had = hand.size;
        hand.clear();
        return had;
    }

    public int put(int post) {
        if (!net.has(post) || hand.placeOf(post) != NONE) {
            return BAD;
        }
        hand.append(post);
        return hand.size;
    }

    public int at(int place) {
        return hand.hasPlace(place) ? hand.posts[place] : BAD;
    }

    public int move(int place, int to) {
        if (!hand.hasPlace(place) || !hand.hasPlace(to)) {
            return BAD;
        }
        hand.shift(place, to);
        return 0;
    }

    public int cost(int cost) {
        if (!isCost(cost)) {
            return BAD;
        }
        if (!hand.isWhole(net.posts)) {
            return NO;
        }
        return costs.costOf(cost, hand);
    }

    public int where(int cost) {
        if (cost != SPAN && cost != CUTS && cost != OPENS && cost != CELLS) {
            return BAD;
        }
        if (!hand.isWhole(net.posts)) {
            return NO;
        }
        return cost == SPAN ? costs.placeOfSpan(hand) : costs.placeOfPeak(cost, hand);
    }

    public int lawful() {
        if (!hand.isWhole(net.posts)) {
            return NO;
        }
        return view.keepsPairs(hand) ? 1 : 0;
    }

    public int least(int cost) {
        int refusal = refusalOfSearch(cost);
        return refusal != 0 ? refusal : searchFor(cost).lowest;
    }

    public int many(int cost) {
        int refusal = refusalOfSearch(cost);
        return refusal != 0 ? refusal : searchFor(cost).total;
    }

    public int best(int cost, int k) {
        if (k < 0) {
            return BAD;
        }
        int refusal = refusalOfSearch(cost);
        if (refusal != 0) {
            return refusal;
        }
        Search search = searchFor(cost);
        if (k >= search.total) {
            return NONE;
        }
        search.pick(k, hand);
        return hand.size;
    }

    public int number(int cost) {
        if (!isCost(cost)) {
            return BAD;
        }
        if (!hand.isWhole(net.posts)) {
            return NO;
        }
        int refusal = refusalOfSearch(cost);
        return refusal != 0 ? refusal : searchFor(cost).numberOf(hand);
    }

    public int better(int cost, int n) {
        if (!isCost(cost) || n < 1 || n > TURNS) {
            return BAD;
        }
        if (!hand.isWhole(net.posts)) {
            return NO;
        }
        int done = 0;
        while (done < n && improve(cost)) {
            done++;
        }
        return done;
    }

    // ---- walls, bags

    public int wall(int cost, int size) {
        return isWall(cost, size) ? sets.priceOf(cost, sets.cheapest(cost, size)) : BAD;
    }

    public int stone(int cost, int size) {
        return isWall(cost, size) ? sets.cheapest(cost, size) : BAD;
    }

    public int bag(int i) {
        if (i < 0 || i >= net.posts) {
            return BAD;
        }
        if (!hand.isWhole(net.posts)) {
            return NO;
        }
        return costs.bagOf(hand, i);
    }

    public int lay(int bits) {
        if (bits < 0 || bits >= 1 << net.posts) {
            return BAD;
        }
        if (bags.size >= BAGS) {
            return FULL;
        }
        bags.append(bits);
        return bags.size;
    }

    public int empty() {
        int were = bags.size;
        bags.size = 0;
        return were;
    }

    public int good() {
        return bags.fault(view);
    }

    public int rowOf() {
        if (bags.fault(view) != 0) {
            return NO;
        }
        bags.rowInto(hand, net.posts);
        return bags.largest(net.posts);
    }

    // ---- hunts

    public int hunt(int move) {
        boolean comes = move >= 0 && move < POSTS;
        boolean goes = move >= LEAVE && move < LEAVE + POSTS;
        if (!comes && !goes) {
            return BAD;
        }
        if (chase.size >= MOVES) {
            return FULL;
        }
        chase.append(move);
        return chase.size;
    }

    public int calm() {
        int had = chase.size;
        chase.size = 0;
        return had;
    }

    public int plan() {
        if (!hand.isWhole(net.posts)) {
            return NO;
        }
        if (plannedMoves() > MOVES) {
            return FULL;
        }
        chase.size = 0;
        int before = 0;
        for (int place = 0; place < hand.size; place++) {
            int now = costs.bagOf(hand, place);
            chase.appendAll(before & ~now, LEAVE);
            chase.appendAll(now & ~before, 0);
            before = now;
        }
        chase.appendAll(before, LEAVE);
        return chase.size;
    }

    public int clean(int what) {
        if (what < 0 || what > 3) {
            return BAD;
        }
        chase.run(view);
        switch (what) {
            case 0:
                return chase.foulRoads();
            case 1:
                return chase.most;
            case 2:
                return chase.again;
            default:
                return chase.idle;
        }
    }

    public int undo() {
        if (history.size == 0) {
            return NO;
        }
        history.takeBack(net);
        refresh();
        return history.size;
    }

    public int count(int what) {
        switch (what) {
            case 0:
                return net.posts;
            case 1:
                return view.roads;
            case 2:
                return net.pairs;
            case 3:
                return net.sheets();
            case 4:
                return hand.size;
            case 5:
                return bags.size;
            case 6:
                return chase.size;
            case 7:
                return history.size;
            case 8:
                return view.weight;
            default:
                return BAD;
        }
    }

    // ---- what the calls have in common

    private static boolean holds(int set, int post) {
        return (set >> post & 1) != 0;
    }

    private static boolean isCost(int cost) {
        return cost >= SPAN && cost <= CELLS;
    }

    private static boolean isBySpans(int cost) {
        return cost == SPAN || cost == ROUND;
    }

    private static int heaviest(int width) {
        return width == BYTES ? BYTE_MOST : WEIGHT_MOST;
    }

    private boolean isWall(int cost, int size) {
        return (cost == CUTS || cost == OPENS) && size >= 1 && size < net.posts;
    }

    /** After every change: what was reckoned of the net before holds no longer. */
    private void refresh() {
        view.reckon(net);
        sets.forget();
        trials.forget();
    }

    /** BAD or LARGE, or 0 where the best rows for a cost can be looked for. */
    private int refusalOfSearch(int cost) {
        if (!isCost(cost)) {
            return BAD;
        }
        return isBySpans(cost) && net.posts > TRIED ? LARGE : 0;
    }

    private Search searchFor(int cost) {
        Search search = isBySpans(cost) ? trials : sets;
        search.solve(cost);
        return search;
    }

    /** Does the best move of one post, if one makes the row in hand cost less; whether it did. */
    private boolean improve(int cost) {
        int lowest = costs.costOf(cost, hand);
        int from = NONE;
        int to = NONE;
        for (int place = 0; place < hand.size; place++) {
            for (int other = 0; other < hand.size; other++) {
                int moved = costWithMove(cost, place, other);
                if (moved < lowest) {
                    lowest = moved;
                    from = place;
                    to = other;
                }
            }
        }
        if (from == NONE) {
            return false;
        }
        hand.shift(from, to);
        return true;
    }

    /** The cost of the row in hand with one post moved; FAR, if that is not lawful. */
    private int costWithMove(int cost, int place, int to) {
        trial.takeFrom(hand);
        trial.shift(place, to);
        return view.keepsPairs(trial) ? costs.costOf(cost, trial) : FAR;
    }

    private int plannedMoves() {
        int moves = 0;
        int before = 0;
        for (int place = 0; place < hand.size; place++) {
            int now = costs.bagOf(hand, place);
            moves += Integer.bitCount(before ^ now);
            before = now;
        }
        return moves + Integer.bitCount(before);
    }

    /** The net as the changes made it: what undo() brings back, and nothing that follows from it. */
    private static final class Net {
        int posts;
        int pairs;
        /** The width of each post's sheet; NONE where it is missing. */
        final int[] widths = new int[POSTS];
        final int[] lengths = new int[POSTS];
        /** The sheets, one behind the other; places that are not there hold 0. */
        final int[] told = new int[POSTS * POSTS];
        /** For each post the set of those that stand behind it by a pair of their own. */
        final int[] behind = new int[POSTS];

        Net() {
            Arrays.fill(widths, NONE);
        }

        boolean has(int post) {
            return post >= 0 && post < posts;
        }

        /** Whether there are two posts, not one named twice: only those have a road or a pair. */
        boolean hasBoth(int post, int other) {
            return has(post) && has(other) && post != other;
        }

        boolean isMissing(int post) {
            return widths[post] == NONE;
        }

        void renewSheet(int post, int width, int length) {
            widths[post] = width;
            lengths[post] = length;
            for (int place = 0; place < POSTS; place++) {
                told[post * POSTS + place] = 0;
            }
        }

        int sheets() {
            int there = 0;
            for (int post = 0; post < posts; post++) {
                if (!isMissing(post)) {
                    there++;
                }
            }
            return there;
        }

        /** The set of those that must stand behind a post, straight or by others. */
        int allBehind(int post) {
            int found = behind[post];
            for (int round = 0; round < posts; round++) {
                int more = found;
                for (int other = 0; other < posts; other++) {
                    if (holds(found, other)) {
                        more |= behind[other];
                    }
                }
                if (more == found) {
                    break;
                }
                found = more;
            }
            return found;
        }

        void takeFrom(Net other) {
            posts = other.posts;
            pairs = other.pairs;
            System.arraycopy(other.widths, 0, widths, 0, POSTS);
            System.arraycopy(other.lengths, 0, lengths, 0, POSTS);
            System.arraycopy(other.told, 0, told, 0, POSTS * POSTS);
            System.arraycopy(other.behind, 0, behind, 0, POSTS);
        }
    }

    /** The nets ahead of the latest changes, in a ring: the oldest gives way to the newest. */
    private static final class History {
        final Net[] kept = new Net[KEPT];
        int oldest;
        int size;

        History() {
            for (int i = 0; i < KEPT; i++) {
                kept[i] = new Net();
            }
        }

        void keep(Net net) {
            if (size == KEPT) {
                oldest = (oldest + 1) % KEPT;
                size--;
            }
            kept[(oldest + size) % KEPT].takeFrom(net);
            size++;
        }

        void takeBack(Net net) {
            if (size > 0) {
                size--;
                net.takeFrom(kept[(oldest + size) % KEPT]);
            }
        }
    }

    /** What follows from the net: roads and pairs in the form in which rows are laid. */
    private static final class View {
        int posts;
        int roads;
        /** The weight of all roads. */
        int weight;
        final int[] weights = new int[POSTS * POSTS];
        /** For each post the set of those to which it has a road. */
        final int[] near = new int[POSTS];
        /** For each post the sets of those behind and ahead of it by a pair of their own. */
        final int[] behind = new int[POSTS];
        final int[] ahead = new int[POSTS];

        void reckon(Net net) {
            posts = net.posts;
            roads = 0;
            weight = 0;
            Arrays.fill(weights, 0);
            Arrays.fill(near, 0);
            Arrays.fill(ahead, 0);
            System.arraycopy(net.behind, 0, behind, 0, POSTS);
            for (int one = 0; one < posts; one++) {
                for (int other = 0; other < posts; other++) {
                    if (one < other) {
                        reckonRoad(net, one, other);
                    }
                    if (holds(behind[one], other)) {
                        ahead[other] |= 1 << one;
                    }
                }
            }
        }

        private void reckonRoad(Net net, int one, int other) {
            int together = net.told[one * POSTS + other] + net.told[other * POSTS + one];
            if (together > 0) {
                weights[one * POSTS + other] = together;
                weights[other * POSTS + one] = together;
                near[one] |= 1 << other;
                near[other] |= 1 << one;
                roads++;
                weight += together;
            }
        }

        int weightOf(int one, int other) {
            return weights[one * POSTS + other];
        }

        int weightAt(int post) {
            int sum = 0;
            for (int other = 0; other < posts; other++) {
                sum += weightOf(post, other);
            }
            return sum;
        }

        /** Whether a post may stand next behind those laid: all that must be ahead of it are there. */
        boolean mayFollow(int post, int laid) {
            return (ahead[post] & ~laid) == 0;
        }

        boolean keepsPairs(Row row) {
            int laid = 0;
            for (int place = 0; place < row.size; place++) {
                int post = row.posts[place];
                if (!mayFollow(post, laid)) {
                    return false;
                }
                laid |= 1 << post;
            }
            return true;
        }
    }

    /** Posts one behind the other, no one twice; not always all. */
    private static final class Row {
        final int[] posts = new int[POSTS];
        int size;

        void clear() {
            size = 0;
        }

        void append(int post) {
            if (size < POSTS) {
                posts[size] = post;
                size++;
            }
        }

        void dropLast() {
            if (size > 0) {
                size--;
            }
        }

        boolean hasPlace(int place) {
            return place >= 0 && place < size;
        }

        int placeOf(int post) {
            for (int place = 0; place < size; place++) {
                if (posts[place] == post) {
                    return place;
                }
            }
            return NONE;
        }

        /** Whether it has all of so many posts, and none that there is not any more. */
        boolean isWhole(int all) {
            for (int place = 0; place < size; place++) {
                if (posts[place] >= all) {
                    return false;
                }
            }
            return size == all;
        }

        void shift(int from, int to) {
            int post = posts[from];
            for (int place = from; place < to; place++) {
                posts[place] = posts[place + 1];
            }
            for (int place = from; place > to; place--) {
                posts[place] = posts[place - 1];
            }
            posts[to] = post;
        }

        void takeFrom(Row other) {
            System.arraycopy(other.posts, 0, posts, 0, POSTS);
            size = other.size;
        }
    }

    /**
     * What rows cost. Behind a place CUTS and SUM look at the CUT, OPENS at the OPEN, CELLS at the
     * HELD: here that is the price of the set laid so far. (The CUTS of a row, added up, are its SUM:
     * a road is in as many of them as its span.)
     */
    private static final class Costs {
        final View view;

        Costs(View view) {
            this.view = view;
        }

        int costOf(int cost, Row row) {
            int soFar = 0;
            int price = 0;
            int laid = 0;
            for (int place = 0; place < row.size; place++) {
                if (isBySpans(cost)) {
                    soFar = withSpans(cost, soFar, row, place);
                } else {
                    price = priceWith(cost, price, laid, row.posts[place]);
                    laid |= 1 << row.posts[place];
                    soFar = join(cost, soFar, price);
                }
            }
            return finish(cost, soFar);
        }

        /** SPAN or ROUND of a row up to a place, if it is so much up to the one before. */
        int withSpans(int cost, int soFar, Row row, int place) {
            int result = soFar;
            for (int other = 0; other < place; other++) {
                int weight = view.weightOf(row.posts[other], row.posts[place]);
                int span = place - other;
                if (weight > 0 && cost == SPAN) {
                    result = Math.max(result, span);
                } else if (weight > 0) {
                    result += weight * Math.min(span, view.posts - span);
                }
            }
            return result;
        }

        /** The price of those laid and one post more, if those laid have a price. */
        int priceWith(int cost, int price, int laid, int post) {
            if (cost == OPENS) {
                return Integer.bitCount(leadingOut(laid | 1 << post, view.near));
            }
            if (cost == CELLS) {
                return Integer.bitCount(leadingOut(laid | 1 << post, view.behind));
            }
            int cut = price;
            for (int other = 0; other < view.posts; other++) {
                int weight = view.weightOf(post, other);
                cut += holds(laid, other) ? -weight : weight;
            }
            return cut;
        }

        /** Those of a set from which something leads to a post outside it. */
        private int leadingOut(int set, int[] leads) {
            int found = 0;
            for (int post = 0; post < view.posts; post++) {
                if (holds(set, post) && (leads[post] & ~set) != 0) {
                    found |= 1 << post;
                }
            }
            return found;
        }

        int join(int cost, int one, int other) {
            return cost == SUM ? one + other : Math.max(one, other);
        }

        /** CELLS are those held and one for the post that comes next. */
        int finish(int cost, int joined) {
            return cost == CELLS && view.posts > 0 ? joined + 1 : joined;
        }

        /** The first place behind which the price is greatest; NONE, if it never is above 0. */
        int placeOfPeak(int cost, Row row) {
            int peak = 0;
            int found = NONE;
            int price = 0;
            int laid = 0;
            for (int place = 0; place < row.size; place++) {
                price = priceWith(cost, price, laid, row.posts[place]);
                laid |= 1 << row.posts[place];
                if (price > peak) {
                    peak = price;
                    found = place;
                }
            }
            return found;
        }

        int placeOfSpan(Row row) {
            int longest = 0;
            int found = NONE;
            for (int first = 0; first < row.size; first++) {
                for (int second = first + 1; second < row.size; second++) {
                    boolean longer = second - first > longest;
                    if (longer && view.weightOf(row.posts[first], row.posts[second]) > 0) {
                        longest = second - first;
                        found = first;
                    }
                }
            }
            return found;
        }

        int bagOf(Row row, int place) {
            int laid = 0;
            for (int i = 0; i < place; i++) {
                laid |= 1 << row.posts[i];
            }
            return leadingOut(laid, view.near) | 1 << row.posts[place];
        }
    }

    /** Looks for the best rows; what it found for one cost stands until the net changes. */
    private abstract static class Search {
        final View view;
        final Costs costs;
        /** The cost of which all that follows tells; NONE: of none. */
        int solvedFor = NONE;
        int lowest;
        int total;

        Search(View view, Costs costs) {
            this.view = view;
            this.costs = costs;
        }

        abstract void forget();

        abstract void solve(int cost);

        abstract void pick(int k, Row into);

        abstract int numberOf(Row row);
    }

    /** For costs that hang on the sets laid first alone: what is best behind a set is reckoned once. */
    private static final class SetSearch extends Search {
        /** The cost whose prices stand in the table (CUTS for SUM too); NONE: of none. */
        int pricedFor = NONE;
        final int[] prices = new int[SETS];
        /** For each set laid first the least that the places behind it can cost. */
        final int[] rests = new int[SETS];
        /** For each set laid first in how many ways the others go on as best rows do. */
        final int[] ways = new int[SETS];

        SetSearch(View view, Costs costs) {
            super(view, costs);
        }

        void forget() {
            pricedFor = NONE;
            solvedFor = NONE;
        }

        int priceOf(int cost, int set) {
            priceSets(cost);
            return prices[set];
        }

        /** Of the sets of a size with the least price the one with the least bits. */
        int cheapest(int cost, int size) {
            priceSets(cost);
            int found = 0;
            int lowestPrice = FAR;
            for (int set = 0; set < 1 << view.posts; set++) {
                if (Integer.bitCount(set) == size && prices[set] < lowestPrice) {
                    lowestPrice = prices[set];
                    found = set;
                }
            }
            return found;
        }

        private void priceSets(int cost) {
            int priced = cost == SUM ? CUTS : cost;
            if (pricedFor == priced) {
                return;
            }
            solvedFor = NONE;
            prices[0] = 0;
            for (int post = 0; post < view.posts; post++) {
                int bit = 1 << post;
                for (int rest = 0; rest < bit; rest++) {
                    prices[rest | bit] = costs.priceWith(priced, prices[rest], rest, post);
                }
            }
            pricedFor = priced;
        }

        void solve(int cost) {
            if (solvedFor == cost) {
                return;
            }
            priceSets(cost);
            solvedFor = cost;
            int all = (1 << view.posts) - 1;
            rests[all] = 0;
            for (int set = all - 1; set >= 0; set--) {
                rests[set] = leastRest(set);
            }
            ways[all] = 1;
            for (int set = all - 1; set >= 0; set--) {
                ways[set] = waysOn(set);
            }
            lowest = costs.finish(cost, rests[0]);
            total = ways[0];
        }

        private int leastRest(int set) {
            int result = FAR;
            for (int post = 0; post < view.posts; post++) {
                if (!holds(set, post) && view.mayFollow(post, set)) {
                    result = Math.min(result, restWith(set | 1 << post));
                }
            }
            return result;
        }

        private int waysOn(int set) {
            int sum = 0;
            for (int post = 0; post < view.posts; post++) {
                if (isBestStep(set, post)) {
                    sum += ways[set | 1 << post];
                }
            }
            return sum;
        }

        private int restWith(int next) {
            return costs.join(solvedFor, prices[next], rests[next]);
        }

        /** A sum must be least from every set on; a greatest one may be reached anywhere. */
        private boolean isBestStep(int set, int post) {
            if (holds(set, post) || !view.mayFollow(post, set)) {
                return false;
            }
            int allowed = solvedFor == SUM ? rests[set] : rests[0];
            return restWith(set | 1 << post) <= allowed;
        }

        private int waysWith(int set, int post) {
            return isBestStep(set, post) ? ways[set | 1 << post] : 0;
        }

        void pick(int k, Row into) {
            into.clear();
            int left = k;
            int laid = 0;
            for (int place = 0; place < view.posts; place++) {
                int chosen = NONE;
                for (int post = 0; post < view.posts && chosen == NONE; post++) {
                    int with = waysWith(laid, post);
                    if (left < with) {
                        chosen = post;
                    } else {
                        left -= with;
                    }
                }
                if (chosen != NONE) {
                    into.append(chosen);
                    laid |= 1 << chosen;
                }
            }
        }

        int numberOf(Row row) {
            int ahead = 0;
            int laid = 0;
            for (int place = 0; place < row.size; place++) {
                int post = row.posts[place];
                if (!isBestStep(laid, post)) {
                    return NONE;
                }
                for (int lesser = 0; lesser < post; lesser++) {
                    ahead += waysWith(laid, lesser);
                }
                laid |= 1 << post;
            }
            return ahead;
        }
    }

    /** For costs that hang on every place: rows of few posts are tried, in their order. */
    private static final class TrialSearch extends Search {
        /** The best rows so far, each as one number, and in order: so they are tried. */
        final int[] found = new int[TRIED_ROWS];
        final Row row = new Row();

        TrialSearch(View view, Costs costs) {
            super(view, costs);
        }

        void forget() {
            solvedFor = NONE;
        }

        void solve(int cost) {
            if (solvedFor == cost) {
                return;
            }
            solvedFor = cost;
            lowest = FAR;
            total = 0;
            row.clear();
            tryBehind(0, 0);
        }

        /** Tries all that can stand behind the posts in the row, which cost so much. */
        private void tryBehind(int laid, int soFar) {
            int places = row.size;
            if (places >= view.posts || places >= TRIED) {
                meet(soFar);
                return;
            }
            for (int post = 0; post < view.posts; post++) {
                if (!holds(laid, post) && view.mayFollow(post, laid)) {
                    row.append(post);
                    int cost = costs.withSpans(solvedFor, soFar, row, places);
                    // costs never fall from place to place
                    if (cost <= lowest) {
                        tryBehind(laid | 1 << post, cost);
                    }
                    row.dropLast();
                }
            }
        }

        private void meet(int cost) {
            if (cost < lowest) {
                lowest = cost;
                total = 0;
            }
            if (total < TRIED_ROWS) {
                found[total] = code(row);
                total++;
            }
        }

        private static int code(Row row) {
            int result = 0;
            for (int place = 0; place < row.size; place++) {
                result = result << CODE_BITS | row.posts[place];
            }
            return result;
        }

        void pick(int k, Row into) {
            into.clear();
            for (int place = 0; place < view.posts; place++) {
                int shift = CODE_BITS * (view.posts - 1 - place);
                into.append(found[k] >> shift & (1 << CODE_BITS) - 1);
            }
        }

        int numberOf(Row row) {
            int code = code(row);
            for (int k = 0; k < total; k++) {
                if (found[k] == code) {
                    return k;
                }
            }
            return NONE;
        }
    }

    /** The bags in hand. */
    private static final class Bags {
        final int[] sets = new int[BAGS];
        int size;

        void append(int set) {
            if (size < BAGS) {
                sets[size] = set;
                size++;
            }
        }

        /** 0, if they are good, else the number that the document gives to what is wrong first. */
        int fault(View view) {
            int bare = firstBare(view.posts);
            if (bare != NONE) {
                return 100 + bare;
            }
            int split = firstSplitRoad(view);
            if (split != NONE) {
                return 200 + split;
            }
            int torn = firstTorn(view.posts);
            return torn != NONE ? 400 + torn : 0;
        }

        private int firstBare(int posts) {
            for (int post = 0; post < posts; post++) {
                if (!together(1 << post)) {
                    return post;
                }
            }
            return NONE;
        }

        private int firstSplitRoad(View view) {
            for (int one = 0; one < view.posts; one++) {
                for (int other = one + 1; other < view.posts; other++) {
                    if (view.weightOf(one, other) > 0 && !together(1 << one | 1 << other)) {
                        return POSTS * one + other;
                    }
                }
            }
            return NONE;
        }

        private int firstTorn(int posts) {
            for (int post = 0; post < posts; post++) {
                if (beginnings(post) > 1) {
                    return post;
                }
            }
            return NONE;
        }

        private boolean together(int set) {
            for (int i = 0; i < size; i++) {
                if ((sets[i] & set) == set) {
                    return true;
                }
            }
            return false;
        }

        /** How often a bag with a post comes behind one without it, or first. */
        private int beginnings(int post) {
            int found = 0;
            boolean before = false;
            for (int i = 0; i < size; i++) {
                boolean now = holds(sets[i], post);
                if (now && !before) {
                    found++;
                }
                before = now;
            }
            return found;
        }

        void rowInto(Row row, int posts) {
            row.clear();
            int laid = 0;
            for (int i = 0; i < size; i++) {
                for (int post = 0; post < posts; post++) {
                    if (holds(sets[i] & ~laid, post)) {
                        row.append(post);
                        laid |= 1 << post;
                    }
                }
            }
        }

        int largest(int posts) {
            int all = (1 << posts) - 1;
            int most = 0;
            for (int i = 0; i < size; i++) {
                most = Math.max(most, Integer.bitCount(sets[i] & all));
            }
            return most;
        }
    }

    /** The hunt: its moves, and what comes of them on a net. */
    private static final class Chase {
        final int[] moves = new int[MOVES];
        int size;
        /** For each post the set of those to which it has a foul road. */
        final int[] foul = new int[POSTS];
        /** The posts that have a searcher. */
        int guarded;
        int most;
        int again;
        int idle;

        void append(int move) {
            if (size < MOVES) {
                moves[size] = move;
                size++;
            }
        }

        void appendAll(int set, int base) {
            for (int post = 0; post < POSTS; post++) {
                if (holds(set, post)) {
                    append(base + post);
                }
            }
        }

        void run(View view) {
            System.arraycopy(view.near, 0, foul, 0, POSTS);
            guarded = 0;
            most = 0;
            again = 0;
            idle = 0;
            for (int i = 0; i < size; i++) {
                boolean goes = moves[i] >= LEAVE;
                int post = goes ? moves[i] - LEAVE : moves[i];
                if (post >= view.posts || holds(guarded, post) != goes) {
                    idle++;
                } else if (goes) {
                    leave(view, post);
                } else {
                    come(post);
                }
            }
        }

        private void come(int post) {
            guarded |= 1 << post;
            most = Math.max(most, Integer.bitCount(guarded));
            foul[post] &= ~guarded;
            for (int other = 0; other < POSTS; other++) {
                if (holds(guarded, other)) {
                    foul[other] &= ~(1 << post);
                }
            }
        }

        private void leave(View view, int post) {
            guarded &= ~(1 << post);
            // each pass but the last makes all roads of one post more foul
            for (int pass = 0; pass <= POSTS; pass++) {
                if (!spread(view)) {
                    break;
                }
            }
        }

        /** Where no searcher is, one foul road makes all foul; whether one became so. */
        private boolean spread(View view) {
            boolean more = false;
            for (int post = 0; post < view.posts; post++) {
                int cleaned = view.near[post] & ~foul[post];
                if (!holds(guarded, post) && foul[post] != 0 && cleaned != 0) {
                    soil(post, cleaned);
                    more = true;
                }
            }
            return more;
        }

        private void soil(int post, int others) {
            foul[post] |= others;
            again += Integer.bitCount(others);
            for (int other = 0; other < POSTS; other++) {
                if (holds(others, other)) {
                    foul[other] |= 1 << post;
                }
            }
        }

        int foulRoads() {
            int ends = 0;
            for (int post = 0; post < POSTS; post++) {
                ends += Integer.bitCount(foul[post]);
            }
            return ends / 2;
        }
    }
}
