/** The boundaries that promises 11 to 22 name: the row in hand, what it costs, and the best rows. */
final class RowEdgesTest extends Edges {
    private static final int[] FOR_ALL_NETS = {CUTS, OPENS, SUM, CELLS};
    private static final int[] FOR_SMALL_NETS = {SPAN, ROUND};

    public static void main(String[] args) throws ReflectiveOperationException {
        runAll(RowEdgesTest.class);
    }

    /** Posts 0 .. 10 in hand, as they stand. */
    private void holdAllOf11() {
        hold(0, 1, 2, 3, 4, 5, 6, 7, 8, 9, 10);
    }

    /** In hand are as many posts as there are, but one of them is none. */
    private void holdOneThatIsNone() {
        posts(3);
        hold(2, 0);
        x.undo();
    }

    /** Roads 0 - 1, 2 - 3, 4 - 5, 6 - 7; in hand a row that two moves make good. */
    private void holdTwoKnots() {
        x = Nets.of(8);
        for (int post = 0; post < 8; post += 2) {
            x.weigh(post, post + 1, 1);
        }
        hold(0, 2, 1, 3, 4, 6, 5, 7);
    }

    // ---- 11: begin

    @Sentence(of = "Promise 11", says = "The ROW IN HAND is empty: how many it had.")
    void beginWithNothingInHand() {
        is("begin() of a new object", x.begin(), 0);
        posts(2);
        is("begin() of nothing", x.begin(), 0);
        is("count(4)", x.count(4), 0);
    }

    @Sentence(of = "Promise 11", says = "The ROW IN HAND is empty: how many it had.")
    void beginWithAllInHand() {
        posts(11);
        holdAllOf11();
        is("begin()", x.begin(), 11);
        is("count(4)", x.count(4), 0);
        is("at(0)", x.at(0), BAD);
        is("begin() again", x.begin(), 0);
        is("put(0) then", x.put(0), 1);
    }

    @Sentence(of = "Promise 11", says = "The ROW IN HAND is empty: how many it had.")
    void beginWithPostsThatThereAreNot() {
        posts(2);
        hold(0, 1);
        undo(2);
        is("begin()", x.begin(), 2);
    }

    // ---- 12: put

    @Sentence(of = "Promise 12", says = "A POST comes behind those IN HAND: how many there are.")
    void putUpToTheLast() {
        posts(11);
        for (int post = 10; post >= 0; post--) {
            is("put(" + post + ")", x.put(post), 11 - post);
        }
        inHand("all", 10, 9, 8, 7, 6, 5, 4, 3, 2, 1, 0);
    }

    @Sentence(of = "Promise 12", says = "BAD: there is no such POST,")
    void putOfNoPost() {
        is("put(0) of a net without posts", x.put(0), BAD);
        posts(3);
        for (int post : outside(3)) {
            is("put(" + post + ")", x.put(post), BAD);
        }
        is("count(4)", x.count(4), 0);
    }

    @Sentence(of = "Promise 12", says = "BAD: there is no such POST,")
    void putOfAPostThatThereIsNotAnyMore() {
        posts(3);
        x.undo();
        is("put(2)", x.put(2), BAD);
        is("put(1)", x.put(1), 1);
    }

    @Sentence(of = "Promise 12", says = "or it stands there.")
    void putOfAPostThatStandsThere() {
        posts(11);
        for (int post = 0; post < 11; post++) {
            x.put(post);
            is("put(" + post + ") again: the last in hand", x.put(post), BAD);
            is("put(0) again: the first in hand", x.put(0), BAD);
        }
        is("count(4)", x.count(4), 11);
    }

    @Sentence(of = "Promise 12", says = "or it stands there.")
    void putOfAPostThatStandsThereSinceBeforeItCameAgain() {
        posts(2);
        hold(1);
        x.undo();
        x.post();
        is("put(1)", x.put(1), BAD);
        is("put(0)", x.put(0), 2);
    }

    // ---- 13: at

    @Sentence(of = "Promise 13", says = "The POST at a place IN HAND.")
    void atTheFirstAndTheLastPlace() {
        posts(11);
        hold(10, 9, 8, 7, 6, 5, 4, 3, 2, 1, 0);
        is("at(0)", x.at(0), 10);
        is("at(10)", x.at(10), 0);
    }

    @Sentence(of = "Promise 13", says = "The POST at a place IN HAND.")
    void atAPlaceOfAPostThatThereIsNot() {
        posts(2);
        hold(1, 0);
        undo(2);
        is("at(0)", x.at(0), 1);
        is("at(1)", x.at(1), 0);
    }

    @Sentence(of = "Promise 13", says = "BAD.")
    void atNoPlace() {
        posts(4);
        is("at(0) of nothing in hand", x.at(0), BAD);
        hold(3, 1, 2);
        for (int place : outside(3)) {
            is("at(" + place + ")", x.at(place), BAD);
        }
    }

    @Sentence(of = "Promise 13", says = "BAD.")
    void atNoPlaceOfAFullHand() {
        posts(11);
        holdAllOf11();
        is("at(11)", x.at(11), BAD);
        is("at(-1)", x.at(-1), BAD);
    }

    // ---- 14: move

    @Sentence(of = "Promise 14", says = "The POST at a place goes to another place (those between move one place): 0.")
    void moveFromEndToEnd() {
        posts(11);
        holdAllOf11();
        is("move(0, 10)", x.move(0, 10), 0);
        inHand("move(0, 10)", 1, 2, 3, 4, 5, 6, 7, 8, 9, 10, 0);
        is("move(10, 0)", x.move(10, 0), 0);
        inHand("move(10, 0)", 0, 1, 2, 3, 4, 5, 6, 7, 8, 9, 10);
    }

    @Sentence(of = "Promise 14", says = "The POST at a place goes to another place (those between move one place): 0.")
    void moveToTheNextPlace() {
        posts(4);
        hold(0, 1, 2, 3);
        is("move(1, 2)", x.move(1, 2), 0);
        inHand("move(1, 2)", 0, 2, 1, 3);
        is("move(3, 2)", x.move(3, 2), 0);
        inHand("move(3, 2)", 0, 2, 3, 1);
    }

    @Sentence(of = "Promise 14", says = "The POST at a place goes to another place (those between move one place): 0.")
    void moveToTheSamePlace() {
        posts(3);
        hold(2, 0, 1);
        for (int place = 0; place < 3; place++) {
            is("move(" + place + ", " + place + ")", x.move(place, place), 0);
        }
        inHand("moves to the same places", 2, 0, 1);
    }

    @Sentence(of = "Promise 14", says = "The POST at a place goes to another place (those between move one place): 0.")
    void moveOfLessThanAll() {
        posts(5);
        hold(4, 2, 0);
        is("move(2, 0)", x.move(2, 0), 0);
        inHand("move(2, 0)", 0, 4, 2);
    }

    @Sentence(of = "Promise 14", says = "BAD.")
    void moveFromOrToNoPlace() {
        posts(5);
        is("move(0, 0) of nothing in hand", x.move(0, 0), BAD);
        hold(4, 2, 0);
        for (int place : outside(3)) {
            is("move(" + place + ", 0)", x.move(place, 0), BAD);
            is("move(0, " + place + ")", x.move(0, place), BAD);
            is("move(" + place + ", " + place + ")", x.move(place, place), BAD);
        }
        inHand("refused moves", 4, 2, 0);
    }

    @Sentence(of = "Promise 14", says = "BAD.")
    void moveBeyondAFullHand() {
        posts(11);
        holdAllOf11();
        is("move(0, 11)", x.move(0, 11), BAD);
        is("move(11, 0)", x.move(11, 0), BAD);
        is("move(10, -1)", x.move(10, -1), BAD);
        inHand("refused moves", 0, 1, 2, 3, 4, 5, 6, 7, 8, 9, 10);
    }

    // ---- 15: cost

    @Sentence(of = "Promise 15", says = "A COST of the ROW IN HAND.")
    void costOfTheHeaviestNet() {
        posts(11);
        x.sheet(0, 2, 11);
        for (int place = 0; place < 11; place++) {
            x.weigh(0, place, 1000);
        }
        for (int post = 1; post < 11; post++) {
            x.sheet(post, 2, 11);
            x.copy(0, post, 11);
        }
        holdAllOf11();
        int[] due = {10, 60000, 10, 440000, 330000, 1};
        for (int cost = 0; cost <= 5; cost++) {
            is("cost(" + cost + ")", x.cost(cost), due[cost]);
        }
        is("least(1)", x.least(1), 60000);
        is("least(3)", x.least(3), 440000);
        is("count(8)", x.count(8), 110000);
    }

    @Sentence(of = "Promise 15", says = "BAD")
    void costOfNoCost() {
        posts(2);
        hold(0, 1);
        for (int cost : outside(6)) {
            is("cost(" + cost + ")", x.cost(cost), BAD);
        }
    }

    @Sentence(of = "Promise 15", says = "NO: it has not all POSTS")
    void costOfLessThanAllPosts() {
        posts(3);
        for (int cost = 0; cost <= 5; cost++) {
            hold();
            is("cost(" + cost + ") of nothing in hand", x.cost(cost), NO);
            hold(0, 1);
            is("cost(" + cost + ") of all but one", x.cost(cost), NO);
        }
        hold(2, 0, 1);
        is("cost(1) of all", x.cost(1), 0);
        x.post();
        is("cost(1) with one post more", x.cost(1), NO);
    }

    @Sentence(of = "Promise 15", says = "(or one that is none)")
    void costOfARowWithOneThatIsNone() {
        holdOneThatIsNone();
        for (int cost = 0; cost <= 5; cost++) {
            is("cost(" + cost + ")", x.cost(cost), NO);
        }
        x.post();
        x.put(1);
        is("cost(5) when it is one again", x.cost(CELLS), 1);
    }

    @Sentence(of = "Promise 15", says = "(or one that is none)")
    void costOfARowWithAllPostsAndOneThatIsNone() {
        posts(3);
        hold(0, 1, 2);
        x.undo();
        is("cost(1): one too many", x.cost(1), NO);
        undo(2);
        is("cost(1): without posts, but something in hand", x.cost(1), NO);
        x.begin();
        is("cost(1): the empty row", x.cost(1), 0);
    }

    @Sentence(of = "Promise 15", says = "(or one that is none)")
    void costOfARowWithOneThatIsNoneByFar() {
        posts(11);
        hold(10, 0, 1, 2);
        undo(7);
        is("count(0)", x.count(0), 4);
        for (int cost = 0; cost <= 5; cost++) {
            is("cost(" + cost + ")", x.cost(cost), NO);
        }
    }

    @Sentence(of = "Promise 15", says = "BAD; NO: it has not all POSTS (or one that is none).")
    void costIsBadAheadOfNo() {
        posts(1);
        is("cost(6) with nothing in hand", x.cost(6), BAD);
        is("cost(-1) with nothing in hand", x.cost(-1), BAD);
    }

    // ---- 16: where

    @Sentence(of = "Promise 16", says = "The first place IN HAND behind which a COST 1, 2 or 5 is come to")
    void whereIsTheFirstOfSeveral() {
        x = Nets.path(4);
        for (int post = 0; post < 3; post++) {
            x.pair(post, post + 1);
        }
        hold(0, 1, 2, 3);
        is("where(1)", x.where(CUTS), 0);
        is("where(2)", x.where(OPENS), 0);
        is("where(5)", x.where(CELLS), 0);
    }

    @Sentence(of = "Promise 16", says = "The first place IN HAND behind which a COST 1, 2 or 5 is come to")
    void whereIsTheLastPlaceThereCanBe() {
        x = Nets.of(11);
        x.weigh(9, 10, 1);
        x.pair(9, 10);
        holdAllOf11();
        is("where(1)", x.where(CUTS), 9);
        is("where(2)", x.where(OPENS), 9);
        is("where(5)", x.where(CELLS), 9);
        is("where(0)", x.where(SPAN), 9);
    }

    @Sentence(of = "Promise 16", says = "The first place IN HAND behind which a COST 1, 2 or 5 is come to")
    void whereIsNoPlaceThatCostsLess() {
        x = Nets.of(4);
        x.weigh(0, 1, 1);
        x.weigh(1, 2, 5);
        x.weigh(1, 3, 2);
        x.weigh(2, 3, 1);
        x.pair(0, 3);
        x.pair(1, 3);
        hold(0, 1, 2, 3);
        // cuts 1, 7, 3; open 1, 1, 2; held 1, 2, 2
        is("where(1)", x.where(CUTS), 1);
        is("where(2)", x.where(OPENS), 2);
        is("where(5)", x.where(CELLS), 1);
    }

    @Sentence(of = "Promise 16", says = "(of 0 the first place of the first ROAD, by its first place, then its second one, with that SPAN)")
    void whereOfTheFirstLongestRoad() {
        x = Nets.of(6);
        x.weigh(0, 1, 9);
        x.weigh(1, 3, 1);
        x.weigh(1, 2, 9);
        x.weigh(2, 4, 9);
        x.weigh(3, 5, 9);
        hold(0, 1, 2, 3, 4, 5);
        is("where(0) of three with span 2", x.where(SPAN), 1);
        x.weigh(3, 0, 1);
        is("where(0) of one with span 3", x.where(SPAN), 0);
        hold(3, 4, 5, 0, 2, 1);
        // 3 - 0 has 3, 1 - 3 has 5: both begin at place 0; 0 - 1 has 2
        is("where(0) of one with span 5", x.where(SPAN), 0);
        is("cost(0)", x.cost(SPAN), 5);
    }

    @Sentence(of = "Promise 16", says = "(of 0 the first place of the first ROAD, by its first place, then its second one, with that SPAN)")
    void whereOfALongerRoadBehindAShorterOne() {
        x = Nets.of(6);
        x.weigh(0, 1, 1000);
        x.weigh(2, 4, 1);
        hold(5, 0, 1, 2, 3, 4);
        is("where(0)", x.where(SPAN), 3);
    }

    @Sentence(of = "Promise 16", says = "NONE: there is none such (nothing costs,")
    void whereNothingCosts() {
        for (int many = 0; many <= 3; many++) {
            hold(new int[][] {{}, {0}, {1, 0}, {2, 1, 0}}[many]);
            is(many + " posts: where(0)", x.where(SPAN), NONE);
            is(many + " posts: where(1)", x.where(CUTS), NONE);
            is(many + " posts: where(2)", x.where(OPENS), NONE);
            x.post();
        }
    }

    @Sentence(of = "Promise 16", says = "or CELLS ahead of all).")
    void whereCellsAreAheadOfAll() {
        is("without posts: where(5)", x.where(CELLS), NONE);
        x.post();
        hold(0);
        is("of one post: where(5)", x.where(CELLS), NONE);
        posts(2);
        x.pair(0, 2);
        hold(2, 0, 1);
        is("of a pair the other way round: where(5)", x.where(CELLS), NONE);
        hold(1, 0, 2);
        is("of a pair: where(5)", x.where(CELLS), 1);
    }

    @Sentence(of = "Promise 16", says = "BAD: a COST 3, 4 or another")
    void whereOfNoSuchCost() {
        x = Nets.path(3);
        hold(0, 1, 2);
        is("where(3)", x.where(SUM), BAD);
        is("where(4)", x.where(ROUND), BAD);
        for (int cost : outside(6)) {
            is("where(" + cost + ")", x.where(cost), BAD);
        }
    }

    @Sentence(of = "Promise 16", says = "NO.")
    void whereOfNoRow() {
        posts(3);
        for (int cost : new int[] {SPAN, CUTS, OPENS, CELLS}) {
            hold();
            is("where(" + cost + ") of nothing in hand", x.where(cost), NO);
            hold(1, 0);
            is("where(" + cost + ") of all but one", x.where(cost), NO);
        }
        hold(2, 0);
        x.undo();
        is("where(1) of one that is none", x.where(CUTS), NO);
        is("where(0) of one that is none", x.where(SPAN), NO);
    }

    @Sentence(of = "Promise 16", says = "BAD: a COST 3, 4 or another; NO.")
    void whereIsBadAheadOfNo() {
        posts(1);
        for (int cost : new int[] {SUM, ROUND, -1, 6}) {
            is("where(" + cost + ") with nothing in hand", x.where(cost), BAD);
        }
    }

    // ---- 17: lawful

    @Sentence(of = "Promise 17", says = "Whether the ROW IN HAND is LAWFUL: 1, 0.")
    void lawfulOfTheShortestRows() {
        is("lawful() without posts", x.lawful(), 1);
        x.post();
        hold(0);
        is("lawful() of one post", x.lawful(), 1);
    }

    @Sentence(of = "Promise 17", says = "Whether the ROW IN HAND is LAWFUL: 1, 0.")
    void lawfulOfTheLastTwoPlaces() {
        posts(11);
        holdAllOf11();
        x.pair(9, 10);
        is("lawful()", x.lawful(), 1);
        x.move(9, 10);
        is("lawful() with those two changed", x.lawful(), 0);
    }

    @Sentence(of = "Promise 17", says = "Whether the ROW IN HAND is LAWFUL: 1, 0.")
    void lawfulOfTheFirstTwoPlaces() {
        posts(11);
        holdAllOf11();
        x.pair(0, 1);
        is("lawful()", x.lawful(), 1);
        x.move(0, 1);
        is("lawful() with those two changed", x.lawful(), 0);
    }

    @Sentence(of = "Promise 17", says = "NO.")
    void lawfulOfNoRow() {
        posts(3);
        is("lawful() of nothing in hand", x.lawful(), NO);
        hold(0, 1);
        is("lawful() of all but one", x.lawful(), NO);
        hold(2, 0);
        x.undo();
        is("lawful() of one that is none", x.lawful(), NO);
        hold(0, 1);
        is("lawful() of all", x.lawful(), 1);
        undo(2);
        is("lawful() without posts, but something in hand", x.lawful(), NO);
    }

    // ---- 18: least

    @Sentence(of = "Promise 18", says = "The least COST of a LAWFUL ROW.")
    void leastOfTheShortestRows() {
        for (int cost = 0; cost <= 5; cost++) {
            is("without posts: least(" + cost + ")", x.least(cost), 0);
        }
        x.post();
        for (int cost = 0; cost <= 5; cost++) {
            is("of one post: least(" + cost + ")", x.least(cost), cost == CELLS ? 1 : 0);
        }
    }

    @Sentence(of = "Promise 18", says = "The least COST of a LAWFUL ROW.")
    void leastOfLawfulRowsAlone() {
        x = Nets.path(3);
        int[] free = {1, 1, 1, 2, 2, 1};
        int[] bound = {2, 2, 1, 3, 2, 2};
        for (int cost = 0; cost <= 5; cost++) {
            is("without pairs: least(" + cost + ")", x.least(cost), free[cost]);
        }
        x.pair(1, 0);
        x.pair(1, 2);
        for (int cost = 0; cost <= 5; cost++) {
            is("1 must be first: least(" + cost + ")", x.least(cost), bound[cost]);
        }
    }

    @Sentence(of = "Promise 18", says = "The least COST of a LAWFUL ROW.")
    void leastWhateverIsInHand() {
        x = Nets.path(3);
        hold(1, 0);
        is("least(1)", x.least(CUTS), 1);
        inHand("least()", 1, 0);
    }

    @Sentence(of = "Promise 18", says = "The least COST of a LAWFUL ROW.")
    void leastOfTheNetAsItIsNow() {
        x = Nets.path(4);
        int[] path = {1, 1, 1, 3, 3, 1};
        int[] ring = {2, 3, 2, 7, 5, 2};
        for (int cost = 0; cost <= 5; cost++) {
            is("path: least(" + cost + ")", x.least(cost), path[cost]);
            x.weigh(3, 0, 2);
            x.pair(0, 1);
            is("ring: least(" + cost + ")", x.least(cost), ring[cost]);
            undo(2);
            is("path again: least(" + cost + ")", x.least(cost), path[cost]);
        }
    }

    @Sentence(of = "Promise 18", says = "The least COST of a LAWFUL ROW.")
    void leastOfFewerPostsThanBefore() {
        x = Nets.of(2);
        x.weigh(0, 2, 5);
        x.weigh(0, 3, 5);
        posts(2);
        for (int cost = 0; cost <= 5; cost++) {
            is("4 posts: least(" + cost + ")", x.least(cost), new int[] {1, 5, 1, 10, 10, 1}[cost]);
        }
        for (int cost = 0; cost <= 5; cost++) {
            x.least(cost);
            undo(2);
            is("2 posts: least(" + cost + ")", x.least(cost), cost == CELLS ? 1 : 0);
            is("2 posts: many(" + cost + ")", x.many(cost), 2);
            posts(2);
        }
    }

    @Sentence(of = "Promise 18", says = "BAD")
    void leastOfNoCost() {
        posts(2);
        for (int cost : outside(6)) {
            is("least(" + cost + ")", x.least(cost), BAD);
        }
        posts(9);
        is("least(6) of a full net", x.least(6), BAD);
        is("least(-1) of a full net", x.least(-1), BAD);
    }

    @Sentence(of = "Promise 18", says = "LARGE.")
    void leastOfALargeNet() {
        x = Nets.path(7);
        is("7 posts: least(0)", x.least(SPAN), 1);
        is("7 posts: least(4)", x.least(ROUND), 6);
        for (int many = 8; many <= 11; many++) {
            x.post();
            for (int cost : FOR_SMALL_NETS) {
                is(many + " posts: least(" + cost + ")", x.least(cost), LARGE);
            }
            is(many + " posts: least(1)", x.least(CUTS), 1);
            is(many + " posts: least(2)", x.least(OPENS), 1);
            is(many + " posts: least(3)", x.least(SUM), 6);
            is(many + " posts: least(5)", x.least(CELLS), 1);
        }
        undo(4);
        is("7 posts again: least(0)", x.least(SPAN), 1);
    }

    // ---- 19: many

    @Sentence(of = "Promise 19", says = "How many BEST ROWS.")
    void manyOfTheShortestRows() {
        for (int posts = 0; posts <= 1; posts++) {
            for (int cost = 0; cost <= 5; cost++) {
                is(posts + " posts: many(" + cost + ")", x.many(cost), 1);
            }
            x.post();
        }
    }

    @Sentence(of = "Promise 19", says = "How many BEST ROWS.")
    void manyOfAllRowsThereCanBe() {
        posts(7);
        for (int cost = 0; cost <= 5; cost++) {
            is("7 posts: many(" + cost + ")", x.many(cost), 5040);
        }
        posts(4);
        for (int cost : FOR_ALL_NETS) {
            is("11 posts: many(" + cost + ")", x.many(cost), ALL_OF_11);
        }
    }

    @Sentence(of = "Promise 19", says = "How many BEST ROWS.")
    void manyOfOneLawfulRow() {
        x = Nets.complete(7);
        for (int post = 0; post < 6; post++) {
            x.pair(post, post + 1);
        }
        for (int cost = 0; cost <= 5; cost++) {
            is("many(" + cost + ")", x.many(cost), 1);
        }
    }

    @Sentence(of = "Promise 19", says = "BAD")
    void manyOfNoCost() {
        posts(2);
        for (int cost : outside(6)) {
            is("many(" + cost + ")", x.many(cost), BAD);
        }
        posts(9);
        is("many(6) of a full net", x.many(6), BAD);
        is("many(-1) of a full net", x.many(-1), BAD);
    }

    @Sentence(of = "Promise 19", says = "LARGE.")
    void manyOfALargeNet() {
        x = Nets.path(7);
        is("7 posts: many(0)", x.many(SPAN), 2);
        is("7 posts: many(4)", x.many(ROUND), 14);
        posts(1);
        is("8 posts: many(0)", x.many(SPAN), LARGE);
        is("8 posts: many(4)", x.many(ROUND), LARGE);
        is("8 posts: many(1)", x.many(CUTS), 16);
        posts(3);
        is("11 posts: many(0)", x.many(SPAN), LARGE);
        is("11 posts: many(4)", x.many(ROUND), LARGE);
    }

    // ---- 20: best

    @Sentence(of = "Promise 20", says = "BEST ROW k comes IN HAND: how many POSTS.")
    void bestOfTheFirstAndTheLastNumber() {
        posts(11);
        for (int cost : FOR_ALL_NETS) {
            is("best(" + cost + ", 0)", x.best(cost, 0), 11);
            inHand("the first", 0, 1, 2, 3, 4, 5, 6, 7, 8, 9, 10);
            is("best(" + cost + ", last)", x.best(cost, ALL_OF_11 - 1), 11);
            inHand("the last", 10, 9, 8, 7, 6, 5, 4, 3, 2, 1, 0);
        }
    }

    @Sentence(of = "Promise 20", says = "BEST ROW k comes IN HAND: how many POSTS.")
    void bestOfTheFirstAndTheLastNumberOfASmallNet() {
        posts(7);
        for (int cost : FOR_SMALL_NETS) {
            is("best(" + cost + ", 0)", x.best(cost, 0), 7);
            inHand("the first", 0, 1, 2, 3, 4, 5, 6);
            is("best(" + cost + ", last)", x.best(cost, 5039), 7);
            inHand("the last", 6, 5, 4, 3, 2, 1, 0);
        }
    }

    @Sentence(of = "Promise 20", says = "BEST ROW k comes IN HAND: how many POSTS.")
    void bestOfANetWithoutPosts() {
        for (int cost = 0; cost <= 5; cost++) {
            x.post();
            hold(0);
            x.undo();
            is("count(4)", x.count(4), 1);
            is("best(" + cost + ", 0)", x.best(cost, 0), 0);
            is("count(4) then", x.count(4), 0);
        }
    }

    @Sentence(of = "Promise 20", says = "BEST ROW k comes IN HAND: how many POSTS.")
    void bestTakesThePlaceOfWhatIsInHand() {
        x = Nets.path(3);
        hold(1, 2);
        is("best(0, 1)", x.best(SPAN, 1), 3);
        inHand("best(0, 1)", 2, 1, 0);
        hold(1);
        is("best(1, 1)", x.best(CUTS, 1), 3);
        inHand("best(1, 1)", 2, 1, 0);
    }

    @Sentence(of = "Promise 20", says = "BAD")
    void bestOfNoCost() {
        posts(2);
        for (int cost : outside(6)) {
            is("best(" + cost + ", 0)", x.best(cost, 0), BAD);
        }
        is("count(4)", x.count(4), 0);
    }

    @Sentence(of = "Promise 20", says = "(k below 0, too)")
    void bestOfANumberBelowZero() {
        posts(2);
        for (int cost = 0; cost <= 5; cost++) {
            for (int k : new int[] {-1, -2, MIN}) {
                is("best(" + cost + ", " + k + ")", x.best(cost, k), BAD);
            }
        }
        is("count(4)", x.count(4), 0);
    }

    @Sentence(of = "Promise 20", says = "LARGE")
    void bestOfALargeNet() {
        posts(7);
        hold(0);
        is("7 posts: best(0, 0)", x.best(SPAN, 0), 7);
        is("7 posts: best(4, 0)", x.best(ROUND, 0), 7);
        x.post();
        hold(7);
        is("8 posts: best(0, 0)", x.best(SPAN, 0), LARGE);
        is("8 posts: best(4, 0)", x.best(ROUND, 0), LARGE);
        inHand("large", 7);
        is("8 posts: best(1, 0)", x.best(CUTS, 0), 8);
    }

    @Sentence(of = "Promise 20", says = "NONE: there are not so many.")
    void bestOfANumberThatIsTooLarge() {
        x = Nets.path(7);
        int[] many = {2, 2, 4, 2, 14, 5040};
        hold(3, 1);
        for (int cost = 0; cost <= 5; cost++) {
            is("best(" + cost + ", " + many[cost] + ")", x.best(cost, many[cost]), NONE);
            is("best(" + cost + ", MAX)", x.best(cost, MAX), NONE);
            inHand("none", 3, 1);
        }
        for (int cost = 0; cost <= 5; cost++) {
            is("best(" + cost + ", " + many[cost] + " less 1)", x.best(cost, many[cost] - 1), 7);
        }
    }

    @Sentence(of = "Promise 20", says = "NONE: there are not so many.")
    void bestOfASecondRowWhereThereIsOne() {
        for (int posts = 0; posts <= 1; posts++) {
            for (int cost = 0; cost <= 5; cost++) {
                is(posts + " posts: best(" + cost + ", 1)", x.best(cost, 1), NONE);
                is(posts + " posts: best(" + cost + ", 0)", x.best(cost, 0), posts);
            }
            x.post();
        }
    }

    @Sentence(of = "Promise 20", says = "NONE: there are not so many.")
    void bestOfANumberAboveAllRowsThereCanBe() {
        posts(11);
        for (int cost : FOR_ALL_NETS) {
            is("best(" + cost + ", 11!)", x.best(cost, ALL_OF_11), NONE);
        }
        undo(4);
        for (int cost : FOR_SMALL_NETS) {
            is("best(" + cost + ", 7!)", x.best(cost, 5040), NONE);
        }
    }

    @Sentence(of = "Promise 20", says = "BAD (k below 0, too); LARGE; NONE: there are not so many.")
    void bestRefusesInItsOrder() {
        posts(8);
        is("no cost, below 0", x.best(6, -1), BAD);
        is("large, below 0", x.best(SPAN, -1), BAD);
        is("large, below 0", x.best(ROUND, MIN), BAD);
        is("large, not so many", x.best(SPAN, MAX), LARGE);
        is("large, not so many", x.best(ROUND, MAX), LARGE);
        is("no cost, not so many", x.best(-1, MAX), BAD);
    }

    // ---- 21: number

    @Sentence(of = "Promise 21", says = "The number of the ROW IN HAND among the BEST.")
    void numberOfTheFirstAndTheLast() {
        posts(11);
        holdAllOf11();
        for (int cost : FOR_ALL_NETS) {
            is("number(" + cost + ") of the first", x.number(cost), 0);
        }
        hold(10, 9, 8, 7, 6, 5, 4, 3, 2, 1, 0);
        for (int cost : FOR_ALL_NETS) {
            is("number(" + cost + ") of the last", x.number(cost), ALL_OF_11 - 1);
        }
    }

    @Sentence(of = "Promise 21", says = "The number of the ROW IN HAND among the BEST.")
    void numberOfTheFirstAndTheLastOfASmallNet() {
        posts(7);
        for (int cost : FOR_SMALL_NETS) {
            hold(0, 1, 2, 3, 4, 5, 6);
            is("number(" + cost + ") of the first", x.number(cost), 0);
            hold(6, 5, 4, 3, 2, 1, 0);
            is("number(" + cost + ") of the last", x.number(cost), 5039);
        }
    }

    @Sentence(of = "Promise 21", says = "The number of the ROW IN HAND among the BEST.")
    void numberOfTheShortestRows() {
        for (int cost = 0; cost <= 5; cost++) {
            is("without posts: number(" + cost + ")", x.number(cost), 0);
        }
        x.post();
        hold(0);
        for (int cost = 0; cost <= 5; cost++) {
            is("of one post: number(" + cost + ")", x.number(cost), 0);
        }
    }

    @Sentence(of = "Promise 21", says = "BAD")
    void numberOfNoCost() {
        posts(2);
        hold(0, 1);
        for (int cost : outside(6)) {
            is("number(" + cost + ")", x.number(cost), BAD);
        }
    }

    @Sentence(of = "Promise 21", says = "NO;")
    void numberOfNoRow() {
        posts(3);
        for (int cost = 0; cost <= 5; cost++) {
            hold();
            is("number(" + cost + ") of nothing in hand", x.number(cost), NO);
            hold(0, 1);
            is("number(" + cost + ") of all but one", x.number(cost), NO);
        }
        hold(2, 0);
        x.undo();
        is("number(1) of one that is none", x.number(CUTS), NO);
        is("number(0) of one that is none", x.number(SPAN), NO);
    }

    @Sentence(of = "Promise 21", says = "LARGE;")
    void numberOfALargeNet() {
        posts(7);
        hold(0, 1, 2, 3, 4, 5, 6);
        is("7 posts: number(0)", x.number(SPAN), 0);
        is("7 posts: number(4)", x.number(ROUND), 0);
        x.post();
        x.put(7);
        is("8 posts: number(0)", x.number(SPAN), LARGE);
        is("8 posts: number(4)", x.number(ROUND), LARGE);
        is("8 posts: number(3)", x.number(SUM), 0);
    }

    @Sentence(of = "Promise 21", says = "NONE: it is none.")
    void numberOfARowThatCostsMore() {
        x = Nets.path(4);
        hold(1, 0, 2, 3);
        // spans 1, 2, 1; cuts 2, 1, 1
        is("number(0)", x.number(SPAN), NONE);
        is("number(1)", x.number(CUTS), NONE);
        is("number(3)", x.number(SUM), NONE);
        is("number(4)", x.number(ROUND), NONE);
        hold(0, 2, 1, 3);
        is("number(2)", x.number(OPENS), NONE);
        x.pair(0, 1);
        x.pair(2, 3);
        is("number(5)", x.number(CELLS), NONE);
    }

    @Sentence(of = "Promise 21", says = "NONE: it is none.")
    void numberOfARowThatWasOneBefore() {
        x = Nets.of(3);
        for (int cost = 0; cost <= 5; cost++) {
            hold(1, 0, 2);
            is("number(" + cost + ") of all rows", x.number(cost), 2);
            x.pair(0, 2);
            x.pair(2, 1);
            is("number(" + cost + ") of one lawful row", x.number(cost), NONE);
            hold(0, 2, 1);
            is("number(" + cost + ") of that one", x.number(cost), 0);
            x.part(0, 2);
            hold(2, 0, 1);
            is("number(" + cost + ") of three lawful rows", x.number(cost), 1);
            x.part(2, 1);
        }
    }

    @Sentence(of = "Promise 21", says = "NONE: it is none.")
    void numberOfARowThatIsNotLawful() {
        x = Nets.path(3);
        x.pair(2, 0);
        hold(0, 1, 2);
        for (int cost = 0; cost <= 5; cost++) {
            is("number(" + cost + ")", x.number(cost), NONE);
        }
        hold(2, 1, 0);
        // the lawful ones are 1, 2, 0 and 2, 0, 1 and this
        int[] due = {0, 0, 1, 0, 2, 2};
        for (int cost = 0; cost <= 5; cost++) {
            is("number(" + cost + ") of a lawful one", x.number(cost), due[cost]);
        }
    }

    @Sentence(of = "Promise 21", says = "BAD; NO; LARGE; NONE: it is none.")
    void numberRefusesInItsOrder() {
        posts(8);
        is("no cost, nothing in hand", x.number(6), BAD);
        is("nothing in hand, large", x.number(SPAN), NO);
        is("nothing in hand, large", x.number(ROUND), NO);
        x.pair(1, 0);
        hold(0, 1, 2, 3, 4, 5, 6, 7);
        is("large, none", x.number(SPAN), LARGE);
        is("none", x.number(SUM), NONE);
    }

    // ---- 22: better

    @Sentence(of = "Promise 22", says = "n times (1 .. 60) at most:")
    void betterAsOftenAsAsked() {
        holdTwoKnots();
        is("better(3, 1)", x.better(SUM, 1), 1);
        inHand("better(3, 1)", 0, 1, 2, 3, 4, 6, 5, 7);
        is("better(3, 1) again", x.better(SUM, 1), 1);
        inHand("better(3, 1) again", 0, 1, 2, 3, 4, 5, 6, 7);
        is("better(3, 1) at the end", x.better(SUM, 1), 0);
    }

    @Sentence(of = "Promise 22", says = "n times (1 .. 60) at most:")
    void betterTwiceIsNotOnce() {
        holdTwoKnots();
        is("better(3, 2)", x.better(SUM, 2), 2);
        inHand("better(3, 2)", 0, 1, 2, 3, 4, 5, 6, 7);
    }

    @Sentence(of = "Promise 22", says = "n times (1 .. 60) at most:")
    void betterSixtyTimesIsTheMost() {
        holdTwoKnots();
        is("better(3, 61)", x.better(SUM, 61), BAD);
        inHand("better(3, 61)", 0, 2, 1, 3, 4, 6, 5, 7);
        is("better(3, 60)", x.better(SUM, 60), 2);
    }

    @Sentence(of = "Promise 22", says = "of all moves of one POST (as move())")
    void betterMovesFromEndToEnd() {
        x = Nets.path(11);
        hold(10, 0, 1, 2, 3, 4, 5, 6, 7, 8, 9);
        is("better(0, 60)", x.better(SPAN, 60), 1);
        inHand("from the first place to the last", 0, 1, 2, 3, 4, 5, 6, 7, 8, 9, 10);
        hold(1, 2, 3, 4, 5, 6, 7, 8, 9, 10, 0);
        is("better(3, 60)", x.better(SUM, 60), 1);
        inHand("from the last place to the first", 0, 1, 2, 3, 4, 5, 6, 7, 8, 9, 10);
    }

    @Sentence(of = "Promise 22", says = "of all moves of one POST (as move())")
    void betterOfTheShortestRows() {
        for (int cost = 0; cost <= 5; cost++) {
            is("without posts: better(" + cost + ", 60)", x.better(cost, 60), 0);
        }
        x.post();
        hold(0);
        for (int cost = 0; cost <= 5; cost++) {
            is("of one post: better(" + cost + ", 60)", x.better(cost, 60), 0);
        }
        inHand("of one post", 0);
    }

    @Sentence(of = "Promise 22", says = "of all moves of one POST (as move())")
    void betterOfALargeNetIsNotRefused() {
        x = Nets.path(8);
        hold(7, 0, 1, 2, 3, 4, 5, 6);
        is("better(0, 1)", x.better(SPAN, 1), 1);
        is("better(4, 1)", x.better(ROUND, 1), 0);
    }

    @Sentence(of = "Promise 22", says = "by which the ROW IN HAND stays")
    void betterStaysLawful() {
        x = Nets.of(3);
        x.weigh(0, 1, 1);
        x.pair(0, 2);
        hold(0, 2, 1);
        // place 0 to 1 would cost as little, and is of a lesser place, but has 2 ahead of 0
        is("better(3, 60)", x.better(SUM, 60), 1);
        inHand("better(3, 60)", 0, 1, 2);
    }

    @Sentence(of = "Promise 22", says = "(or becomes) LAWFUL")
    void betterBecomesLawful() {
        x = Nets.of(3);
        x.weigh(0, 1, 1);
        x.pair(2, 0);
        hold(0, 2, 1);
        is("better(3, 60)", x.better(SUM, 60), 1);
        inHand("better(3, 60)", 2, 0, 1);
        is("lawful()", x.lawful(), 1);
    }

    @Sentence(of = "Promise 22", says = "(or becomes) LAWFUL")
    void betterDoesNotStayUnlawful() {
        x = Nets.of(4);
        x.weigh(0, 1, 1);
        x.pair(3, 0);
        hold(0, 2, 1, 3);
        // what costs less leaves 0 ahead of 3; what has 3 ahead of 0 costs 2 as before
        is("better(3, 60)", x.better(SUM, 60), 0);
        inHand("better(3, 60)", 0, 2, 1, 3);
    }

    @Sentence(of = "Promise 22", says = "and costs less,")
    void betterDoesNothingForTheSameCost() {
        x = Nets.of(3);
        x.weigh(0, 1, 1);
        x.pair(1, 0);
        for (int cost = 0; cost <= 5; cost++) {
            hold(1, 0, 2);
            is("better(" + cost + ", 60) of the least", x.better(cost, 60), 0);
            inHand("better(" + cost + ", 60)", 1, 0, 2);
        }
        hold(0, 1, 2);
        is("better(3, 60): lawful alone is not better", x.better(SUM, 60), 0);
        inHand("lawful alone", 0, 1, 2);
    }

    @Sentence(of = "Promise 22", says = "that with which it costs least is done,")
    void betterIsTheLeastOfAll() {
        x = Nets.of(4);
        x.weigh(0, 1, 1);
        hold(0, 2, 3, 1);
        // place 0 to 1 costs 2, place 0 to 2 costs 1
        is("better(3, 1)", x.better(SUM, 1), 1);
        inHand("better(3, 1)", 2, 3, 0, 1);
    }

    @Sentence(of = "Promise 22", says = "of several that of the least place,")
    void betterIsOfTheLeastPlace() {
        x = Nets.path(3);
        hold(0, 2, 1);
        // 2, 1, 0 by place 0 to 2, and 0, 1, 2 by place 1 to 2
        is("better(3, 1)", x.better(SUM, 1), 1);
        inHand("better(3, 1)", 2, 1, 0);
    }

    @Sentence(of = "Promise 22", says = "of these to the least place")
    void betterIsToTheLeastPlace() {
        x = Nets.of(5);
        x.weigh(0, 1, 1);
        hold(2, 0, 3, 1, 4);
        // place 1 to 2 and to 3 cost 1
        is("better(3, 1)", x.better(SUM, 1), 1);
        inHand("better(3, 1)", 2, 3, 0, 1, 4);
    }

    @Sentence(of = "Promise 22", says = ": how many.")
    void betterAnswersHowManyWereDone() {
        holdTwoKnots();
        is("better(3, 60)", x.better(SUM, 60), 2);
        is("better(3, 60) again", x.better(SUM, 60), 0);
    }

    @Sentence(of = "Promise 22", says = "BAD;")
    void betterOfNoCost() {
        posts(2);
        hold(0, 1);
        for (int cost : outside(6)) {
            is("better(" + cost + ", 1)", x.better(cost, 1), BAD);
        }
    }

    @Sentence(of = "Promise 22", says = "BAD;")
    void betterLessThanOnce() {
        holdTwoKnots();
        for (int n : new int[] {0, -1, -60, MIN}) {
            is("better(3, " + n + ")", x.better(SUM, n), BAD);
        }
        inHand("refused", 0, 2, 1, 3, 4, 6, 5, 7);
    }

    @Sentence(of = "Promise 22", says = "BAD;")
    void betterTooOften() {
        holdTwoKnots();
        for (int n : new int[] {61, 62, 1 << 16, MAX}) {
            is("better(3, " + n + ")", x.better(SUM, n), BAD);
        }
        inHand("refused", 0, 2, 1, 3, 4, 6, 5, 7);
    }

    @Sentence(of = "Promise 22", says = "NO.")
    void betterOfNoRow() {
        posts(3);
        for (int cost = 0; cost <= 5; cost++) {
            hold();
            is("better(" + cost + ", 1) of nothing in hand", x.better(cost, 1), NO);
            hold(0, 1);
            is("better(" + cost + ", 1) of all but one", x.better(cost, 1), NO);
        }
        hold(2, 0);
        x.undo();
        is("better(1, 1) of one that is none", x.better(CUTS, 1), NO);
        is("better(0, 1) of one that is none", x.better(SPAN, 1), NO);
    }

    @Sentence(of = "Promise 22", says = "BAD; NO.")
    void betterIsBadAheadOfNo() {
        posts(1);
        is("no cost, nothing in hand", x.better(6, 1), BAD);
        is("no cost, nothing in hand", x.better(-1, 60), BAD);
        is("0 times, nothing in hand", x.better(SUM, 0), BAD);
        is("61 times, nothing in hand", x.better(SUM, 61), BAD);
    }
}
