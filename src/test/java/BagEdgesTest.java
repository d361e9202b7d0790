/** The boundaries that promises 23 to 29 name: walls, and bags. */
final class BagEdgesTest extends Edges {
    public static void main(String[] args) throws ReflectiveOperationException {
        runAll(BagEdgesTest.class);
    }

    private void full(int bags) {
        for (int i = 0; i < bags; i++) {
            x.lay(0);
        }
    }

    // ---- 23: wall

    @Sentence(of = "Promise 23", says = "A WALL for CUTS (COST 1) or OPENS (2) and a size.")
    void wallOfTheFirstAndTheLastSize() {
        x = Nets.star(11);
        is("wall(1, 1)", x.wall(CUTS, 1), 1);
        is("wall(1, 10)", x.wall(CUTS, 10), 1);
        is("wall(1, 5)", x.wall(CUTS, 5), 5);
        is("wall(2, 1)", x.wall(OPENS, 1), 1);
        is("wall(2, 10)", x.wall(OPENS, 10), 1);
    }

    @Sentence(of = "Promise 23", says = "A WALL for CUTS (COST 1) or OPENS (2) and a size.")
    void wallOfTwoPosts() {
        x = Nets.of(2);
        is("wall(1, 1) without a road", x.wall(CUTS, 1), 0);
        is("wall(2, 1) without a road", x.wall(OPENS, 1), 0);
        x.weigh(0, 1, 1000);
        x.weigh(1, 0, 1000);
        is("wall(1, 1)", x.wall(CUTS, 1), 2000);
        is("wall(2, 1)", x.wall(OPENS, 1), 1);
    }

    @Sentence(of = "Promise 23", says = "A WALL for CUTS (COST 1) or OPENS (2) and a size.")
    void wallOfTheNetAsItIsNow() {
        x = Nets.path(3);
        is("wall(1, 1)", x.wall(CUTS, 1), 1);
        x.weigh(0, 2, 5);
        is("wall(1, 1) with a road more", x.wall(CUTS, 1), 2);
        is("wall(2, 2)", x.wall(OPENS, 2), 2);
        x.undo();
        is("wall(1, 1) undone", x.wall(CUTS, 1), 1);
        is("wall(2, 2) undone", x.wall(OPENS, 2), 1);
    }

    @Sentence(of = "Promise 23", says = "BAD.")
    void wallOfNoSize() {
        x = Nets.path(4);
        for (int cost = CUTS; cost <= OPENS; cost++) {
            is("wall(" + cost + ", 0)", x.wall(cost, 0), BAD);
            is("wall(" + cost + ", 4): all posts", x.wall(cost, 4), BAD);
            for (int size : outside(4)) {
                is("wall(" + cost + ", " + size + ")", x.wall(cost, size), BAD);
            }
        }
    }

    @Sentence(of = "Promise 23", says = "BAD.")
    void wallOfNoneOrOnePost() {
        for (int posts = 0; posts <= 1; posts++) {
            for (int size = 0; size <= 2; size++) {
                is(posts + " posts: wall(1, " + size + ")", x.wall(CUTS, size), BAD);
                is(posts + " posts: wall(2, " + size + ")", x.wall(OPENS, size), BAD);
            }
            x.post();
        }
    }

    @Sentence(of = "Promise 23", says = "BAD.")
    void wallOfAFullNet() {
        posts(11);
        is("wall(1, 10)", x.wall(CUTS, 10), 0);
        is("wall(1, 11)", x.wall(CUTS, 11), BAD);
        is("wall(2, 11)", x.wall(OPENS, 11), BAD);
    }

    @Sentence(of = "Promise 23", says = "BAD.")
    void wallOfAnotherCost() {
        x = Nets.path(4);
        for (int cost : new int[] {SPAN, SUM, ROUND, CELLS, -1, 6, 33, 34, MIN, MAX}) {
            is("wall(" + cost + ", 1)", x.wall(cost, 1), BAD);
        }
    }

    // ---- 24: stone

    @Sentence(of = "Promise 24", says = "The set, as bits, of that size that has just the WALL,")
    void stoneOfTheFirstAndTheLastSize() {
        x = Nets.of(11);
        for (int post = 0; post < 10; post++) {
            x.weigh(post, 10, 1);
        }
        x.weigh(0, 1, 1);
        // all posts from 2 to 9 have one road, which goes to 10; without 2 the others have one that does
        is("stone(1, 1)", x.stone(CUTS, 1), 1 << 2);
        is("stone(1, 10)", x.stone(CUTS, 10), 2047 & ~(1 << 9));
        is("stone(2, 10)", x.stone(OPENS, 10), 2047 & ~(1 << 9));
        is("wall(2, 10): post 10 alone is open", x.wall(OPENS, 10), 1);
    }

    @Sentence(of = "Promise 24", says = "with the least bits.")
    void stoneOfSeveralSets() {
        posts(11);
        for (int size = 1; size <= 10; size++) {
            is("stone(1, " + size + ")", x.stone(CUTS, size), (1 << size) - 1);
            is("stone(2, " + size + ")", x.stone(OPENS, size), (1 << size) - 1);
        }
    }

    @Sentence(of = "Promise 24", says = "with the least bits.")
    void stoneOfTwoSetsApart() {
        x = Nets.ring(6);
        x.weigh(0, 1, 5);
        x.weigh(1, 2, 5);
        // of three that follow one another round the ring those cost 2 that part no heavy road
        is("wall(1, 3)", x.wall(CUTS, 3), 2);
        is("stone(1, 3): 0, 1, 2 and not 3, 4, 5", x.stone(CUTS, 3), 7);
        is("stone(1, 1)", x.stone(CUTS, 1), 8);
    }

    @Sentence(of = "Promise 24", says = "BAD.")
    void stoneOfNoSize() {
        x = Nets.path(4);
        for (int cost = CUTS; cost <= OPENS; cost++) {
            is("stone(" + cost + ", 0)", x.stone(cost, 0), BAD);
            is("stone(" + cost + ", 1)", x.stone(cost, 1), 1);
            is("stone(" + cost + ", 3)", x.stone(cost, 3), 7);
            is("stone(" + cost + ", 4): all posts", x.stone(cost, 4), BAD);
            for (int size : outside(4)) {
                is("stone(" + cost + ", " + size + ")", x.stone(cost, size), BAD);
            }
        }
    }

    @Sentence(of = "Promise 24", says = "BAD.")
    void stoneOfNoneOrOnePost() {
        for (int posts = 0; posts <= 1; posts++) {
            for (int size = 0; size <= 2; size++) {
                is(posts + " posts: stone(1, " + size + ")", x.stone(CUTS, size), BAD);
                is(posts + " posts: stone(2, " + size + ")", x.stone(OPENS, size), BAD);
            }
            x.post();
        }
    }

    @Sentence(of = "Promise 24", says = "BAD.")
    void stoneOfAnotherCost() {
        x = Nets.path(4);
        for (int cost : new int[] {SPAN, SUM, ROUND, CELLS, -1, 6, 33, 34, MIN, MAX}) {
            is("stone(" + cost + ", 1)", x.stone(cost, 1), BAD);
        }
    }

    // ---- 25: bag

    @Sentence(of = "Promise 25", says = "BAG i of the ROW IN HAND, as bits.")
    void bagOfTheFirstAndTheLastPlace() {
        x = Nets.star(11);
        hold(0, 1, 2, 3, 4, 5, 6, 7, 8, 9, 10);
        is("bag(0)", x.bag(0), 1);
        is("bag(10)", x.bag(10), 1 + (1 << 10));
        hold(10, 9, 8, 7, 6, 5, 4, 3, 2, 1, 0);
        is("bag(0)", x.bag(0), 1 << 10);
        is("bag(10): all are open", x.bag(10), 2047);
    }

    @Sentence(of = "Promise 25", says = "BAG i of the ROW IN HAND, as bits.")
    void bagOfOnePost() {
        x.post();
        hold(0);
        is("bag(0)", x.bag(0), 1);
        is("bag(1)", x.bag(1), BAD);
    }

    @Sentence(of = "Promise 25", says = "BAD;")
    void bagOfNoPlace() {
        is("bag(0) of a net without posts", x.bag(0), BAD);
        is("bag(-1) of a net without posts", x.bag(-1), BAD);
        posts(3);
        hold(2, 0, 1);
        for (int i : outside(3)) {
            is("bag(" + i + ")", x.bag(i), BAD);
        }
        posts(8);
        hold(0, 1, 2, 3, 4, 5, 6, 7, 8, 9, 10);
        is("bag(11) of a full net", x.bag(11), BAD);
    }

    @Sentence(of = "Promise 25", says = "NO.")
    void bagOfNoRow() {
        posts(3);
        hold(0, 1);
        is("bag(0) of all but one", x.bag(0), NO);
        is("bag(1) of all but one", x.bag(1), NO);
        hold(1, 2);
        x.undo();
        is("bag(0) of one that is none", x.bag(0), NO);
        is("bag(1) of one that is none", x.bag(1), NO);
        hold(1, 0);
        is("bag(0) of all", x.bag(0), 2);
    }

    /** A ROW has all posts, so that it has as many bags: what is in hand, if that is no row, counts for nothing. */
    @Sentence(of = "Promise 25", says = "BAD; NO.")
    void bagsAreAsManyAsPosts() {
        posts(3);
        is("bag(0) of nothing in hand", x.bag(0), NO);
        hold(2, 0);
        is("bag(2) of all but one", x.bag(2), NO);
        x.put(1);
        is("bag(2) of all", x.bag(2), 2);
        x.undo();
        is("bag(2) of more than all", x.bag(2), BAD);
        is("bag(1) of more than all", x.bag(1), NO);
    }

    @Sentence(of = "Promise 25", says = "BAD; NO.")
    void bagIsBadAheadOfNo() {
        posts(3);
        hold(2, 0);
        for (int i : outside(3)) {
            is("bag(" + i + ")", x.bag(i), BAD);
        }
    }

    // ---- 26: lay

    @Sentence(of = "Promise 26", says = "One more BAG IN HAND: how many.")
    void layUpToTheLast() {
        posts(1);
        for (int i = 1; i <= 20; i++) {
            is("lay(1) no. " + i, x.lay(1), i);
            is("count(5)", x.count(5), i);
        }
    }

    @Sentence(of = "Promise 26", says = "One more BAG IN HAND: how many.")
    void layOfNoPostsAndOfAll() {
        is("lay(0) of a net without posts", x.lay(0), 1);
        posts(11);
        is("lay(0)", x.lay(0), 2);
        is("lay(2047)", x.lay(2047), 3);
        is("good(): all are in the last", x.good(), 0);
        is("rowOf()", x.rowOf(), 11);
    }

    @Sentence(of = "Promise 26", says = "BAD: bits that are no POSTS")
    void layOfBitsThatAreNoPosts() {
        for (int posts = 0; posts <= 11; posts++) {
            is(posts + " posts: the next bit", x.lay(1 << posts), BAD);
            is(posts + " posts: the next bit and all below", x.lay((2 << posts) - 1), BAD);
            x.post();
        }
        for (int bits : new int[] {-1, -2047, MIN, MIN + 1, MAX, 1 << 30, 1 << 16}) {
            is("lay(" + bits + ")", x.lay(bits), BAD);
        }
        is("count(5)", x.count(5), 0);
    }

    @Sentence(of = "Promise 26", says = "BAD: bits that are no POSTS")
    void layOfAPostThatThereIsNotAnyMore() {
        posts(3);
        is("lay(4)", x.lay(4), 1);
        x.undo();
        is("lay(4)", x.lay(4), BAD);
        is("lay(3)", x.lay(3), 2);
    }

    @Sentence(of = "Promise 26", says = "FULL.")
    void twentyFirstBagIsRefused() {
        posts(2);
        full(19);
        is("lay(3) no. 20", x.lay(3), 20);
        is("lay(3) no. 21", x.lay(3), FULL);
        is("lay(0) no. 21", x.lay(0), FULL);
        is("count(5)", x.count(5), 20);
        x.empty();
        is("lay(3) then", x.lay(3), 1);
    }

    @Sentence(of = "Promise 26", says = "BAD: bits that are no POSTS; FULL.")
    void layIsBadAheadOfFull() {
        posts(2);
        full(20);
        is("lay(4)", x.lay(4), BAD);
        is("lay(-1)", x.lay(-1), BAD);
        is("lay(1)", x.lay(1), FULL);
    }

    // ---- 27: empty

    @Sentence(of = "Promise 27", says = "There are no BAGS IN HAND: how many there were.")
    void emptyOfNoBags() {
        is("empty()", x.empty(), 0);
        is("count(5)", x.count(5), 0);
    }

    @Sentence(of = "Promise 27", says = "There are no BAGS IN HAND: how many there were.")
    void emptyOfAllBags() {
        posts(1);
        full(19);
        x.lay(1);
        is("good()", x.good(), 0);
        is("empty()", x.empty(), 20);
        is("count(5)", x.count(5), 0);
        is("good() then", x.good(), 100);
        is("empty() again", x.empty(), 0);
    }

    @Sentence(of = "Promise 27", says = "There are no BAGS IN HAND: how many there were.")
    void emptyLeavesNothingOfTheBags() {
        posts(2);
        lay(1, 2, 3, 1);
        x.empty();
        x.lay(1);
        is("good(): post 1 was in bags before", x.good(), 101);
        x.lay(2);
        is("good(): 3 was the next bag before", x.good(), 0);
        is("rowOf()", x.rowOf(), 1);
    }

    // ---- 28: good

    @Sentence(of = "Promise 28", says = "Whether BAGS IN HAND are GOOD: 0;")
    void goodWithoutPosts() {
        is("good() without bags", x.good(), 0);
        x.lay(0);
        is("good() with an empty bag", x.good(), 0);
    }

    @Sentence(of = "Promise 28", says = "Whether BAGS IN HAND are GOOD: 0;")
    void goodWithAllBags() {
        x = Nets.path(11);
        x.lay(1);
        for (int post = 0; post < 10; post++) {
            x.lay(3 << post);
        }
        for (int i = 11; i < 20; i++) {
            x.lay(1 << 10);
        }
        is("count(5)", x.count(5), 20);
        is("good()", x.good(), 0);
    }

    @Sentence(of = "Promise 28", says = "else the first that they are not:")
    void goodTellsTheFirstFault() {
        x = Nets.path(4);
        lay(1, 2, 1);
        is("posts, roads and bags apart", x.good(), 102);
        x.lay(12);
        is("roads and bags apart", x.good(), 201);
        lay(3, 6);
        is("bags apart", x.good(), 400);
    }

    @Sentence(of = "Promise 28", says = "100 and the least POST that is in none;")
    void goodOfAPostInNone() {
        x = Nets.of(11);
        is("without bags", x.good(), 100);
        x.lay(2047 & ~(1 << 10));
        is("all but 10", x.good(), 110);
        x.empty();
        x.lay(2047 & ~(1 << 3) & ~(1 << 7));
        is("all but 3 and 7", x.good(), 103);
    }

    @Sentence(of = "Promise 28", says = "200 and 11 times the one and the other POST, the lesser first, of the first ROAD;")
    void goodOfARoadInNone() {
        x = Nets.of(11);
        for (int post = 0; post < 11; post++) {
            x.lay(1 << post);
        }
        is("without roads", x.good(), 0);
        x.weigh(10, 9, 1);
        is("the last road", x.good(), 200 + 99 + 10);
        x.weigh(9, 1, 1);
        is("the road 1, 9", x.good(), 200 + 11 + 9);
        x.weigh(8, 1, 1);
        is("the road 1, 8", x.good(), 200 + 11 + 8);
        x.weigh(0, 10, 1);
        is("the road 0, 10", x.good(), 210);
        x.weigh(1, 0, 1);
        is("the first road", x.good(), 201);
    }

    @Sentence(of = "Promise 28", says = "400 and the least POST whose BAGS do not follow one another.")
    void goodOfBagsThatDoNotFollow() {
        posts(11);
        lay(1 << 10, 2047 & ~(1 << 10), 1 << 10);
        is("post 10", x.good(), 410);
        x.empty();
        lay(2047, 0, 1 << 5, 1 << 4);
        is("posts 4 and 5", x.good(), 404);
        x.empty();
        lay(1, 2046);
        full(17);
        x.lay(1);
        is("the first bag and the last", x.good(), 400);
    }

    @Sentence(of = "Promise 28", says = "400 and the least POST whose BAGS do not follow one another.")
    void goodOfBagsThatFollow() {
        posts(2);
        lay(1, 1, 3, 2, 2);
        is("bags that overlap", x.good(), 0);
        x.empty();
        lay(0, 0, 3, 0, 0);
        is("empty bags at both ends", x.good(), 0);
        x.empty();
        lay(3, 0, 2);
        is("an empty bag between", x.good(), 401);
    }

    // ---- 29: rowOf

    @Sentence(of = "Promise 29", says = "The ROW that GOES WITH the BAGS comes IN HAND: the most POSTS in a BAG.")
    void rowOfNoPosts() {
        is("rowOf() without bags", x.rowOf(), 0);
        x.post();
        hold(0);
        x.undo();
        is("rowOf() with something in hand", x.rowOf(), 0);
        is("count(4)", x.count(4), 0);
        x.lay(0);
        is("rowOf() of an empty bag", x.rowOf(), 0);
    }

    @Sentence(of = "Promise 29", says = "The ROW that GOES WITH the BAGS comes IN HAND: the most POSTS in a BAG.")
    void rowOfOneBag() {
        x = Nets.complete(11);
        hold(3, 1);
        x.lay(2047);
        is("rowOf()", x.rowOf(), 11);
        inHand("rowOf()", 0, 1, 2, 3, 4, 5, 6, 7, 8, 9, 10);
    }

    @Sentence(of = "Promise 29", says = "The ROW that GOES WITH the BAGS comes IN HAND: the most POSTS in a BAG.")
    void rowOfTheLargestBagFirstOrLast() {
        posts(4);
        lay(8 + 4 + 2, 2, 1);
        is("the first is the largest", x.rowOf(), 3);
        inHand("the first is the largest", 1, 2, 3, 0);
        x.empty();
        lay(8, 8, 8 + 4 + 2 + 1);
        is("the last is the largest", x.rowOf(), 4);
        inHand("the last is the largest", 3, 0, 1, 2);
    }

    @Sentence(of = "Promise 29", says = "NO: they are not GOOD.")
    void rowOfBagsThatAreNotGood() {
        x = Nets.path(3);
        hold(2, 0);
        is("rowOf() without bags", x.rowOf(), NO);
        lay(1, 6);
        is("rowOf() without a road", x.rowOf(), NO);
        lay(3);
        is("rowOf() of bags apart", x.rowOf(), NO);
        inHand("refused", 2, 0);
        x.empty();
        lay(3, 6);
        is("rowOf() of good ones", x.rowOf(), 2);
    }
}
