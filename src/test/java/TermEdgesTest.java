/** The boundaries that the document names ahead of its promises: the face's constants, and the terms. */
final class TermEdgesTest extends Edges {
    public static void main(String[] args) throws ReflectiveOperationException {
        runAll(TermEdgesTest.class);
    }

    private void holdAllOf11() {
        hold(0, 1, 2, 3, 4, 5, 6, 7, 8, 9, 10);
    }

    /** A net of so many posts in which the first and the last in hand have the only road. */
    private void roadFromEndToEnd(int posts, int weight) {
        x = Nets.of(posts);
        x.weigh(0, posts - 1, weight);
        x.begin();
        for (int post = 0; post < posts; post++) {
            x.put(post);
        }
    }

    private void costs(String what, int... due) {
        for (int cost = 0; cost <= 5; cost++) {
            is(what + ": cost(" + cost + ")", x.cost(cost), due[cost]);
        }
    }

    // ---- what it is

    @Sentence(of = "What it is", says = "An object is used for at most 512 calls after it has been made;")
    void lastOfAllCallsOfChanges() {
        x.post();
        x.sheet(0, 1, 1);
        for (int call = 3; call <= 509; call++) {
            x.weigh(0, 0, call);
        }
        is("call 510: undo()", x.undo(), 7);
        is("call 511: weigh(0, 0, 1)", x.weigh(0, 0, 1), 508);
        is("call 512: count(7)", x.count(7), 8);
    }

    @Sentence(of = "What it is", says = "An object is used for at most 512 calls after it has been made;")
    void lastOfAllCallsOfSearches() {
        x = Nets.star(11);
        int made = 11 + 11 + 10;
        for (int call = made + 1; call <= 510; call++) {
            x.least(new int[] {CUTS, OPENS, SUM, CELLS}[call % 4]);
        }
        is("call 511: many(3)", x.many(SUM), 3628800);
        is("call 512: best(3, last)", x.best(SUM, 3628799), 11);
    }

    // ---- the public face

    @Sentence(of = "The public face", says = "NONE = -1")
    void constantNone() {
        is("NONE", NarrowRows.NONE, -1);
    }

    @Sentence(of = "The public face", says = "BAD = -3")
    void constantBad() {
        is("BAD", NarrowRows.BAD, -3);
    }

    @Sentence(of = "The public face", says = "NO = -4")
    void constantNo() {
        is("NO", NarrowRows.NO, -4);
    }

    @Sentence(of = "The public face", says = "FULL = -5")
    void constantFull() {
        is("FULL", NarrowRows.FULL, -5);
    }

    @Sentence(of = "The public face", says = "LARGE = -6")
    void constantLarge() {
        is("LARGE", NarrowRows.LARGE, -6);
    }

    @Sentence(of = "The public face", says = "NOTHING = -11")
    void constantNothing() {
        is("NOTHING", NarrowRows.NOTHING, -11);
    }

    @Sentence(of = "The public face", says = "INDEX = -13")
    void constantIndex() {
        is("INDEX", NarrowRows.INDEX, -13);
    }

    @Sentence(of = "The public face", says = "SIZE = -14")
    void constantSize() {
        is("SIZE", NarrowRows.SIZE, -14);
    }

    // ---- refusals (those that stand ahead of others have tests with each promise; RefusalEdgesTest: nothing changes)

    @Sentence(of = "Terms", says = "A call that is refused answers one of BAD, NO, FULL, LARGE, or a FINDING,")
    void refusalsOfEachKind() {
        is("BAD", x.put(0), BAD);
        is("NO", x.undo(), NO);
        posts(11);
        is("FULL", x.post(), FULL);
        is("LARGE", x.least(SPAN), LARGE);
        is("NOTHING", x.lose(0), NOTHING);
        is("SIZE", x.sheet(0, 0, -1), SIZE);
        x.sheet(0, 0, 3);
        is("INDEX", x.weigh(0, 3, 1), INDEX);
    }

    @Sentence(of = "Terms", says = "of several the one that stands first with it,")
    void refusalsOfWhichSeveralHold() {
        posts(8);
        x.sheet(0, 0, 2);
        is("sheet(8, 3, -1)", x.sheet(8, 3, -1), BAD);
        is("weigh(8, 99, 1001)", x.weigh(8, 99, 1001), BAD);
        is("weigh(1, 99, 1001)", x.weigh(1, 99, 1001), NOTHING);
        is("weigh(0, 99, 1001)", x.weigh(0, 99, 1001), INDEX);
        is("copy(0, 1, -1)", x.copy(0, 1, -1), NOTHING);
        is("best(0, -1)", x.best(SPAN, -1), BAD);
        is("best(0, MAX)", x.best(SPAN, MAX), LARGE);
        is("number(6)", x.number(6), BAD);
        is("number(0)", x.number(SPAN), NO);
    }

    @Sentence(of = "Terms", says = "NONE: there is none.")
    void noneWhereThereIsNone() {
        posts(2);
        hold(1, 0);
        x.pair(0, 1);
        is("about(0, 0)", x.about(0, 0), NONE);
        is("where(0)", x.where(SPAN), NONE);
        is("best(0, 1)", x.best(SPAN, 1), NONE);
        is("number(0)", x.number(SPAN), NONE);
    }

    // ---- 1: the net

    @Sentence(of = "Terms", says = "THE NET has POSTS, 11 at most, numbered from 0 as they come.")
    void elevenPosts() {
        for (int post = 0; post < 11; post++) {
            is("post()", x.post(), post);
        }
        is("post() no. 12", x.post(), FULL);
        is("count(0)", x.count(0), 11);
    }

    @Sentence(of = "Terms", says = "A post's SHEET is a row of 11 weights of ROADS to others, by their numbers;")
    void elevenPlacesOfASheet() {
        posts(11);
        x.sheet(0, 1, 11);
        for (int place = 1; place < 11; place++) {
            is("weigh(0, " + place + ", number)", x.weigh(0, place, place), 0);
            is("road(0, " + place + ")", x.road(0, place), place);
        }
        is("weigh(0, 11, 1)", x.weigh(0, 11, 1), INDEX);
        is("sheet(0, 1, 12)", x.sheet(0, 1, 12), BAD);
    }

    @Sentence(of = "Terms", says = "it is MISSING at first")
    void sheetsMissingAtFirst() {
        posts(11);
        is("count(3)", x.count(3), 0);
        for (int post = 0; post < 11; post++) {
            is("about(" + post + ", 0)", x.about(post, 0), NONE);
            is("lose(" + post + ")", x.lose(post), NOTHING);
        }
    }

    @Sentence(of = "Terms", says = "it is MISSING at first")
    void sheetMissingOfAPostThatComesAgain() {
        x.post();
        x.sheet(0, 1, 11);
        undo(2);
        x.post();
        is("about(0, 0)", x.about(0, 0), NONE);
        is("count(3)", x.count(3), 0);
    }

    @Sentence(of = "Terms", says = "(all are 0 then);")
    void missingSheetsTellZero() {
        posts(2);
        is("road(0, 1) of two missing", x.road(0, 1), 0);
        x.sheet(1, 1, 11);
        x.weigh(1, 0, 5);
        is("road(0, 1) of one missing", x.road(0, 1), 5);
        x.lose(1);
        is("road(0, 1) of one lost", x.road(0, 1), 0);
        is("count(1)", x.count(1), 0);
    }

    @Sentence(of = "Terms", says = "it has a WIDTH: 0 bytes (weights 0 .. 127),")
    void weightsOfBytes() {
        posts(1);
        x.sheet(0, 0, 1);
        is("127", x.weigh(0, 0, 127), 0);
        is("128", x.weigh(0, 0, 128), BAD);
        is("0", x.weigh(0, 0, 0), 127);
        is("-1", x.weigh(0, 0, -1), BAD);
        is("-128", x.weigh(0, 0, -128), BAD);
        is("256: 0 to a byte", x.weigh(0, 0, 256), BAD);
    }

    @Sentence(of = "Terms", says = "1 shorts (0 .. 1000),")
    void weightsOfShorts() {
        posts(1);
        x.sheet(0, 1, 1);
        is("1000", x.weigh(0, 0, 1000), 0);
        is("1001", x.weigh(0, 0, 1001), BAD);
        is("0", x.weigh(0, 0, 0), 1000);
        is("-1", x.weigh(0, 0, -1), BAD);
        is("65536: 0 to a short", x.weigh(0, 0, 65536), BAD);
    }

    @Sentence(of = "Terms", says = "2 ints (0 .. 1000).")
    void weightsOfInts() {
        posts(1);
        x.sheet(0, 2, 1);
        is("1000", x.weigh(0, 0, 1000), 0);
        is("1001", x.weigh(0, 0, 1001), BAD);
        is("0", x.weigh(0, 0, 0), 1000);
        is("-1", x.weigh(0, 0, -1), BAD);
        is("MAX", x.weigh(0, 0, MAX), BAD);
        is("MIN", x.weigh(0, 0, MIN), BAD);
    }

    @Sentence(of = "Terms", says = "THE ROAD between two posts has the weight that both SHEETS tell of it together")
    void roadOfBothSheets() {
        x = Nets.of(2);
        x.weigh(0, 1, 1000);
        is("one sheet", x.road(1, 0), 1000);
        x.weigh(1, 0, 1000);
        is("both sheets", x.road(1, 0), 2000);
        x.weigh(0, 1, 0);
        is("the other sheet", x.road(0, 1), 1000);
    }

    @Sentence(of = "Terms", says = "(what they tell of a post that there is not,")
    void whatIsToldOfAPostThatThereIsNot() {
        x = Nets.of(2);
        for (int place = 2; place < 11; place++) {
            x.weigh(0, place, 9);
        }
        is("count(1)", x.count(1), 0);
        is("count(8)", x.count(8), 0);
        is("about(0, 2)", x.about(0, 2), 0);
        is("about(0, 3)", x.about(0, 3), 0);
        is("post()", x.post(), 2);
        is("road(0, 2) when it comes", x.road(0, 2), 9);
        is("count(1) when it comes", x.count(1), 1);
        x.undo();
        is("count(8) when it is none again", x.count(8), 0);
        is("about(0, 3) when it is none again", x.about(0, 3), 0);
    }

    @Sentence(of = "Terms", says = "or of itself, counts for nothing);")
    void whatIsToldOfItself() {
        x = Nets.of(2);
        x.weigh(0, 0, 9);
        x.weigh(1, 1, 9);
        is("count(1)", x.count(1), 0);
        is("count(8)", x.count(8), 0);
        is("about(1, 2)", x.about(1, 2), 0);
        is("about(1, 3)", x.about(1, 3), 0);
        hold(0, 1);
        costs("no road", 0, 0, 0, 0, 0, 1);
    }

    @Sentence(of = "Terms", says = "it is there, if that is above 0.")
    void roadAboveZero() {
        x = Nets.of(2);
        hold(0, 1);
        is("count(1) of weight 0", x.count(1), 0);
        is("cost(0) of weight 0", x.cost(SPAN), 0);
        x.weigh(0, 1, 1);
        is("count(1) of weight 1", x.count(1), 1);
        is("about(1, 2) of weight 1", x.about(1, 2), 1);
        is("cost(0) of weight 1", x.cost(SPAN), 1);
        is("cost(2) of weight 1", x.cost(OPENS), 1);
        is("good() of weight 1", x.good(), 100);
        lay(1, 2);
        is("good() of weight 1", x.good(), 201);
        is("clean(0) of weight 1", x.clean(0), 1);
    }

    @Sentence(of = "Terms", says = "PAIRS: of two posts one may have to stand AHEAD of the other one;")
    void pairsOfTwoPosts() {
        posts(2);
        is("many(5) without a pair", x.many(CELLS), 2);
        x.pair(1, 0);
        is("many(5) with a pair", x.many(CELLS), 1);
        hold(0, 1);
        is("lawful()", x.lawful(), 0);
        hold(1, 0);
        is("lawful()", x.lawful(), 1);
    }

    @Sentence(of = "Terms", says = "no pairs ever lead round (see pair()).")
    void pairsNeverLeadRound() {
        posts(4);
        x.pair(0, 1);
        x.pair(2, 3);
        x.pair(1, 2);
        for (int post = 1; post < 4; post++) {
            is("pair(" + post + ", 0)", x.pair(post, 0), NO);
            is("pair(3, " + (post - 1) + ")", x.pair(3, post - 1), NO);
        }
        is("a row is lawful: many(5)", x.many(CELLS), 1);
    }

    @Sentence(of = "Terms", says = "no pairs ever lead round (see pair()).")
    void pairsNeverLeadRoundAfterUndo() {
        posts(3);
        x.pair(0, 1);
        x.part(0, 1);
        is("pair(1, 0)", x.pair(1, 0), 1);
        x.undo();
        x.undo();
        is("pair(1, 0) where the other is again", x.pair(1, 0), NO);
        is("count(2)", x.count(2), 1);
    }

    // ---- 2: rows

    @Sentence(of = "Terms", says = "A ROW has all POSTS, each once, place 0 first")
    void rowOfAllPosts() {
        posts(11);
        is("best(1, 0)", x.best(CUTS, 0), 11);
        int seen = 0;
        for (int place = 0; place < 11; place++) {
            seen |= 1 << x.at(place);
        }
        is("all are there", seen, 2047);
        is("at(0)", x.at(0), 0);
        is("at(11)", x.at(11), BAD);
    }

    @Sentence(of = "Terms", says = "(without POSTS one, the empty one);")
    void emptyRow() {
        is("lawful()", x.lawful(), 1);
        for (int cost = 0; cost <= 5; cost++) {
            is("many(" + cost + ")", x.many(cost), 1);
            is("number(" + cost + ")", x.number(cost), 0);
            is("cost(" + cost + ")", x.cost(cost), 0);
            is("best(" + cost + ", 0)", x.best(cost, 0), 0);
            is("best(" + cost + ", 1)", x.best(cost, 1), NONE);
        }
    }

    @Sentence(of = "Terms", says = "(without POSTS one, the empty one);")
    void emptyRowAfterUndo() {
        x.post();
        x.many(SPAN);
        x.many(SUM);
        x.undo();
        is("lawful()", x.lawful(), 1);
        for (int cost = 0; cost <= 5; cost++) {
            is("least(" + cost + ")", x.least(cost), 0);
            is("many(" + cost + ")", x.many(cost), 1);
        }
    }

    @Sentence(of = "Terms", says = "it is LAWFUL, if each PAIR is kept.")
    void lawfulIfEachPairIsKept() {
        posts(11);
        hold(10, 9, 8, 7, 6, 5, 4, 3, 2, 1, 0);
        is("lawful() without pairs", x.lawful(), 1);
        for (int post = 10; post > 0; post--) {
            x.pair(post, post - 1);
            is("lawful()", x.lawful(), 1);
        }
        x.part(1, 0);
        x.pair(0, 1);
        is("lawful() with the last one turned round", x.lawful(), 0);
    }

    @Sentence(of = "Terms", says = "ROWS are in order by the first place at which they differ, the lesser post ahead.")
    void orderOfRows() {
        posts(3);
        int[][] order = {{0, 1, 2}, {0, 2, 1}, {1, 0, 2}, {1, 2, 0}, {2, 0, 1}, {2, 1, 0}};
        for (int cost = 0; cost <= 5; cost++) {
            for (int k = 0; k < 6; k++) {
                x.best(cost, k);
                inHand("best(" + cost + ", " + k + ")", order[k]);
            }
        }
    }

    @Sentence(of = "Terms", says = "ROWS are in order by the first place at which they differ, the lesser post ahead.")
    void orderOfRowsThatDifferAtTheLastPlaces() {
        posts(11);
        x.best(CUTS, 1);
        inHand("best(1, 1)", 0, 1, 2, 3, 4, 5, 6, 7, 8, 10, 9);
        x.best(CUTS, ALL_OF_11 - 2);
        inHand("the last but one", 10, 9, 8, 7, 6, 5, 4, 3, 2, 0, 1);
        x.best(CUTS, ALL_OF_11 / 11);
        inHand("the first with 1 ahead", 1, 0, 2, 3, 4, 5, 6, 7, 8, 9, 10);
    }

    @Sentence(of = "Terms", says = "Behind a place i (all but the last one):")
    void behindThePlacesOfShortRows() {
        x.post();
        hold(0);
        costs("of one post, behind no place", 0, 0, 0, 0, 0, 1);
        x = Nets.of(2);
        x.weigh(0, 1, 7);
        x.pair(0, 1);
        hold(0, 1);
        costs("of two posts, behind one place", 1, 7, 1, 7, 7, 2);
        is("where(1)", x.where(CUTS), 0);
        is("where(2)", x.where(OPENS), 0);
        is("where(5)", x.where(CELLS), 0);
    }

    @Sentence(of = "Terms", says = "THE CUT is the weight of all ROADS from posts at places up to i to others;")
    void cutsAtTheEnds() {
        x = Nets.of(4);
        x.weigh(0, 1, 3);
        x.weigh(0, 2, 4);
        x.weigh(0, 3, 5);
        hold(0, 1, 2, 3);
        is("cost(1): behind the first", x.cost(CUTS), 12);
        is("where(1)", x.where(CUTS), 0);
        hold(1, 2, 3, 0);
        is("cost(1): behind the last but one", x.cost(CUTS), 12);
        is("where(1)", x.where(CUTS), 2);
    }

    @Sentence(of = "Terms", says = "OPEN are the posts at places up to i that have a ROAD to one of the others;")
    void openPostsAreCountedOnce() {
        x = Nets.star(11);
        holdAllOf11();
        is("cost(2): 0 has ten roads", x.cost(OPENS), 1);
        hold(10, 9, 8, 7, 6, 5, 4, 3, 2, 1, 0);
        is("cost(2): ten have one to 0", x.cost(OPENS), 10);
        is("where(2)", x.where(OPENS), 9);
    }

    @Sentence(of = "Terms", says = "HELD are those at places up to i that stand in a PAIR ahead of one of the others.")
    void heldPostsAreCountedOnce() {
        posts(11);
        for (int post = 1; post < 11; post++) {
            x.pair(0, post);
        }
        holdAllOf11();
        is("cost(5): 0 is ahead of ten", x.cost(CELLS), 2);
        for (int post = 1; post < 11; post++) {
            x.part(0, post);
            x.pair(post, 0);
        }
        hold(10, 9, 8, 7, 6, 5, 4, 3, 2, 1, 0);
        is("cost(5): ten are ahead of 0", x.cost(CELLS), 11);
        is("where(5)", x.where(CELLS), 9);
    }

    @Sentence(of = "Terms", says = "HELD are those at places up to i that stand in a PAIR ahead of one of the others.")
    void heldByPairsAloneThatAreStraight() {
        posts(3);
        x.pair(0, 1);
        x.pair(1, 2);
        hold(0, 1, 2);
        is("cost(5): 0 is not held behind 1", x.cost(CELLS), 2);
        hold(2, 1, 0);
        is("cost(5): those behind hold nothing", x.cost(CELLS), 1);
    }

    @Sentence(of = "Terms", says = "THE SPAN of a ROAD is how many places its posts are apart;")
    void spansFromOneToTen() {
        for (int posts = 2; posts <= 11; posts++) {
            roadFromEndToEnd(posts, 1);
            is(posts + " posts: cost(0)", x.cost(SPAN), posts - 1);
            is(posts + " posts: cost(3)", x.cost(SUM), posts - 1);
        }
    }

    @Sentence(of = "Terms", says = "ROUND it is the less of that and the number of POSTS less that.")
    void spansRoundFromEndToEnd() {
        for (int posts = 2; posts <= 11; posts++) {
            roadFromEndToEnd(posts, 5);
            is(posts + " posts: cost(4)", x.cost(ROUND), 5);
        }
    }

    @Sentence(of = "Terms", says = "ROUND it is the less of that and the number of POSTS less that.")
    void spansRoundHalfWay() {
        x = Nets.of(6);
        x.weigh(0, 5, 1);
        int[] six = {1, 2, 3, 2, 1};
        hold(0, 5, 1, 2, 3, 4);
        for (int place = 1; place <= 5; place++) {
            is("6 posts, span " + place, x.cost(ROUND), six[place - 1]);
            x.move(place, Math.min(place + 1, 5));
        }
        x = Nets.of(7);
        x.weigh(0, 6, 1);
        int[] seven = {1, 2, 3, 3, 2, 1};
        hold(0, 6, 1, 2, 3, 4, 5);
        for (int place = 1; place <= 6; place++) {
            is("7 posts, span " + place, x.cost(ROUND), seven[place - 1]);
            x.move(place, Math.min(place + 1, 6));
        }
    }

    @Sentence(of = "Terms", says = "COSTS: 0 SPAN: the greatest of ROADS;")
    void costSpan() {
        x = Nets.path(5);
        hold(0, 1, 2, 3, 4);
        is("cost(0) of neighbours", x.cost(SPAN), 1);
        x.weigh(0, 4, 1);
        x.weigh(1, 3, 1000);
        is("cost(0): whatever the weights", x.cost(SPAN), 4);
    }

    @Sentence(of = "Terms", says = "1 CUTS: the greatest CUT;")
    void costCuts() {
        x = Nets.complete(11);
        holdAllOf11();
        is("cost(1)", x.cost(CUTS), 30);
        is("where(1): in the middle", x.where(CUTS), 4);
    }

    @Sentence(of = "Terms", says = "2 OPENS: the most OPEN;")
    void costOpens() {
        x = Nets.complete(11);
        holdAllOf11();
        is("cost(2)", x.cost(OPENS), 10);
        is("where(2): at the end", x.where(OPENS), 9);
    }

    @Sentence(of = "Terms", says = "3 SUM: of all ROADS the weight times the SPAN, together;")
    void costSum() {
        roadFromEndToEnd(11, 1000);
        x.weigh(10, 0, 1000);
        is("cost(3) of one road", x.cost(SUM), 20000);
        x.weigh(0, 1, 1);
        is("cost(3) of two roads", x.cost(SUM), 20001);
    }

    @Sentence(of = "Terms", says = "4 ROUND: likewise of SPANS ROUND;")
    void costRound() {
        roadFromEndToEnd(11, 1000);
        x.weigh(10, 0, 1000);
        is("cost(4) of one road", x.cost(ROUND), 2000);
        x.weigh(0, 6, 3);
        is("cost(4) of two roads", x.cost(ROUND), 2015);
    }

    @Sentence(of = "Terms", says = "5 CELLS: the most posts HELD, plus 1 for the next one, behind any place")
    void costCells() {
        posts(11);
        for (int post = 0; post < 10; post++) {
            x.pair(post, 10);
        }
        holdAllOf11();
        is("cost(5)", x.cost(CELLS), 11);
        x.move(10, 5);
        is("cost(5) with 10 at place 5", x.cost(CELLS), 6);
    }

    @Sentence(of = "Terms", says = "(and 1 ahead of all).")
    void costCellsAheadOfAll() {
        x.post();
        hold(0);
        is("cost(5) of one post", x.cost(CELLS), 1);
        posts(10);
        holdAllOf11();
        is("cost(5) of eleven that hold nothing", x.cost(CELLS), 1);
        is("where(5)", x.where(CELLS), NONE);
        is("least(5)", x.least(CELLS), 1);
    }

    @Sentence(of = "Terms", says = "Where there is nothing it is 0")
    void costOfNothing() {
        for (int posts = 0; posts <= 11; posts++) {
            for (int cost = 0; cost < 5; cost++) {
                is(posts + " posts: cost(" + cost + ")", x.cost(cost), 0);
            }
            x.post();
            x.put(posts);
        }
    }

    @Sentence(of = "Terms", says = "(of CELLS 0 without POSTS, else 1).")
    void cellsOfNothing() {
        is("without posts: cost(5)", x.cost(CELLS), 0);
        is("without posts: least(5)", x.least(CELLS), 0);
        for (int posts = 1; posts <= 11; posts++) {
            x.post();
            x.put(posts - 1);
            is(posts + " posts: cost(5)", x.cost(CELLS), 1);
            is(posts + " posts: least(5)", x.least(CELLS), 1);
        }
    }

    @Sentence(of = "Terms", says = "BEST, for a COST, are the LAWFUL ROWS of which that is least;")
    void bestAreLawful() {
        x = Nets.path(3);
        x.pair(1, 0);
        // 1, 0, 2 and 1, 2, 0 and 2, 1, 0 are lawful
        int[] many = {1, 1, 3, 1, 3, 3};
        for (int cost = 0; cost <= 5; cost++) {
            is("many(" + cost + ")", x.many(cost), many[cost]);
        }
    }

    @Sentence(of = "Terms", says = "they have numbers from 0 on, in order.")
    void numbersOfBestRows() {
        x = Nets.path(4);
        for (int cost = 0; cost <= 5; cost++) {
            int many = x.many(cost);
            is("best(" + cost + ", 0)", x.best(cost, 0), 4);
            is("number(" + cost + ") of the first", x.number(cost), 0);
            inHand("the first for " + cost, 0, 1, 2, 3);
            is("best(" + cost + ", last)", x.best(cost, many - 1), 4);
            is("number(" + cost + ") of the last", x.number(cost), many - 1);
            inHand("the last for " + cost, 3, 2, 1, 0);
            is("best(" + cost + ", many)", x.best(cost, many), NONE);
        }
    }

    @Sentence(of = "Terms", says = "For COSTS 0 and 4 the net is LARGE with more than 7 POSTS.")
    void largeWithMoreThanSevenPosts() {
        for (int posts = 0; posts <= 11; posts++) {
            boolean large = posts > 7;
            for (int cost = 0; cost <= 5; cost++) {
                boolean refused = large && (cost == SPAN || cost == ROUND);
                int due = refused ? LARGE : cost == CELLS && posts > 0 ? 1 : 0;
                is(posts + " posts: least(" + cost + ")", x.least(cost), due);
                is(posts + " posts: best(" + cost + ", 0)", x.best(cost, 0), refused ? LARGE : posts);
            }
            x.post();
        }
    }

    @Sentence(of = "Terms", says = "For COSTS 0 and 4 the net is LARGE with more than 7 POSTS.")
    void largeNoMoreAfterUndo() {
        posts(8);
        is("8 posts: many(0)", x.many(SPAN), LARGE);
        x.undo();
        is("7 posts: many(0)", x.many(SPAN), 5040);
        is("7 posts: many(4)", x.many(ROUND), 5040);
        x.post();
        is("8 posts: many(4)", x.many(ROUND), LARGE);
    }

    @Sentence(of = "Terms", says = "For COSTS 0 and 4 the net is LARGE with more than 7 POSTS.")
    void largeNetsHaveCostsAllTheSame() {
        x = Nets.path(11);
        hold(10, 0, 1, 2, 3, 4, 5, 6, 7, 8, 9);
        is("cost(0)", x.cost(SPAN), 10);
        is("cost(4)", x.cost(ROUND), 10);
        is("where(0)", x.where(SPAN), 0);
        is("better(0, 60)", x.better(SPAN, 60), 1);
    }

    // ---- 3: walls and bags

    @Sentence(of = "Terms", says = "A WALL, for CUTS (OPENS) and a size k, 1 .. POSTS less 1:")
    void sizesOfWalls() {
        for (int posts = 0; posts <= 11; posts++) {
            is(posts + " posts: wall(1, 0)", x.wall(CUTS, 0), BAD);
            is(posts + " posts: wall(2, 1)", x.wall(OPENS, 1), posts > 1 ? 0 : BAD);
            is(posts + " posts: wall(1, all but one)", x.wall(CUTS, posts - 1), posts > 1 ? 0 : BAD);
            is(posts + " posts: wall(1, all)", x.wall(CUTS, posts), BAD);
            is(posts + " posts: wall(2, all)", x.wall(OPENS, posts), BAD);
            x.post();
        }
    }

    @Sentence(of = "Terms", says = "the least CUT (fewest OPEN) that any set of k posts has, laid first")
    void wallsOfAnySet() {
        x = Nets.of(4);
        x.weigh(0, 1, 9);
        x.weigh(0, 2, 9);
        x.weigh(0, 3, 1);
        x.weigh(1, 2, 9);
        is("wall(1, 1): 3 alone", x.wall(CUTS, 1), 1);
        is("wall(1, 2)", x.wall(CUTS, 2), 18);
        is("wall(1, 3): all but 3", x.wall(CUTS, 3), 1);
        is("wall(2, 1)", x.wall(OPENS, 1), 1);
        is("wall(2, 2): 0 and 3", x.wall(OPENS, 2), 1);
        is("wall(2, 3)", x.wall(OPENS, 3), 1);
    }

    @Sentence(of = "Terms", says = "(whatever the PAIRS).")
    void wallsWhateverThePairs() {
        x = Nets.path(3);
        x.pair(1, 0);
        x.pair(1, 2);
        is("wall(1, 1)", x.wall(CUTS, 1), 1);
        is("stone(1, 1): no lawful row has 0 first", x.stone(CUTS, 1), 1);
        is("least(1)", x.least(CUTS), 2);
    }

    @Sentence(of = "Terms", says = "No ROW's CUTS (OPENS) are below the greatest WALL.")
    void noRowIsBelowTheGreatestWall() {
        for (NarrowRows each : new NarrowRows[] {Nets.complete(6), Nets.star(6), Nets.ring(6), Nets.path(6)}) {
            x = each;
            for (int cost = CUTS; cost <= OPENS; cost++) {
                int greatest = 0;
                for (int size = 1; size < 6; size++) {
                    greatest = Math.max(greatest, x.wall(cost, size));
                }
                is("the greatest wall is not above least(" + cost + ")", greatest <= x.least(cost) ? 1 : 0, 1);
            }
        }
        x = Nets.complete(6);
        is("complete: wall(1, 3)", x.wall(CUTS, 3), 9);
        is("complete: least(1)", x.least(CUTS), 9);
        is("complete: wall(2, 5)", x.wall(OPENS, 5), 5);
        is("complete: least(2)", x.least(OPENS), 5);
    }

    @Sentence(of = "Terms", says = "BAGS of a ROW: BAG i has the post at place i, and those OPEN behind place i - 1.")
    void bagsAtTheEnds() {
        x = Nets.path(3);
        hold(1, 0, 2);
        is("bag(0): nothing is ahead of it", x.bag(0), 2);
        is("bag(1)", x.bag(1), 3);
        is("bag(2): 0 is not open any more", x.bag(2), 6);
    }

    @Sentence(of = "Terms", says = "(So the most posts in a BAG are the OPENS and 1.)")
    void mostPostsInABag() {
        for (NarrowRows each : new NarrowRows[] {Nets.of(6), Nets.complete(6), Nets.star(6), Nets.ring(6)}) {
            x = each;
            hold(5, 0, 4, 1, 3, 2);
            int most = 0;
            for (int i = 0; i < 6; i++) {
                most = Math.max(most, Integer.bitCount(x.bag(i)));
            }
            is("the most", most, x.cost(OPENS) + 1);
        }
    }

    @Sentence(of = "Terms", says = "BAGS IN HAND, 20 at most, are sets of posts, told as bits;")
    void twentyBags() {
        posts(11);
        for (int i = 1; i <= 20; i++) {
            is("lay(2047) no. " + i, x.lay(2047), i);
        }
        is("lay(2047) no. 21", x.lay(2047), FULL);
        is("good() of twenty like bags", x.good(), 0);
    }

    @Sentence(of = "Terms", says = "they are GOOD, if each post is in some;")
    void goodIfEachPostIsInSome() {
        posts(2);
        is("no bags", x.good(), 100);
        x.lay(0);
        is("an empty bag", x.good(), 100);
        x.lay(1);
        is("1 is in none", x.good(), 101);
        x.lay(2);
        is("all are in some", x.good(), 0);
    }

    @Sentence(of = "Terms", says = "the two posts of each ROAD are in some together;")
    void goodIfRoadsAreInSome() {
        x = Nets.path(2);
        lay(1, 2);
        is("apart", x.good(), 201);
        x.empty();
        lay(1, 3);
        is("together", x.good(), 0);
        x.empty();
        lay(1, 2);
        x.weigh(0, 1, 0);
        is("apart, without a road", x.good(), 0);
    }

    @Sentence(of = "Terms", says = "and those in which a post is follow one another.")
    void goodIfBagsFollow() {
        posts(2);
        lay(1, 3, 2);
        is("they follow", x.good(), 0);
        x.lay(1);
        is("the last is apart", x.good(), 400);
    }

    @Sentence(of = "Terms", says = "A ROW GOES WITH good BAGS: posts by the first BAG in which they are, of one BAG by their numbers.")
    void rowThatGoesWithBags() {
        posts(11);
        lay(1 << 10, 1 << 10 | 1 << 9 | 1, 0, 2046 & ~(1 << 10) & ~(1 << 9));
        is("rowOf()", x.rowOf(), 8);
        inHand("rowOf()", 10, 0, 9, 1, 2, 3, 4, 5, 6, 7, 8);
    }

    @Sentence(of = "Terms", says = "(Bits of POSTS that there are not any more are not looked at.)")
    void bitsOfPostsThatThereAreNot() {
        posts(4);
        lay(8 + 4 + 1, 2, 8 + 4);
        is("good(): 2 is apart", x.good(), 402);
        undo(2);
        is("good() of two posts", x.good(), 0);
        is("rowOf(): one in each", x.rowOf(), 1);
        inHand("rowOf()", 0, 1);
        undo(2);
        is("good() of no posts", x.good(), 0);
        is("rowOf() of no posts", x.rowOf(), 0);
        is("count(5)", x.count(5), 3);
        posts(3);
        is("good() when 2 comes again", x.good(), 402);
    }

    // ---- 4: hunts

    @Sentence(of = "Terms", says = "A HUNT is a row of moves, 60 at most:")
    void sixtyMoves() {
        for (int i = 1; i <= 60; i++) {
            is("hunt(0) no. " + i, x.hunt(0), i);
        }
        is("hunt(0) no. 61", x.hunt(0), FULL);
    }

    @Sentence(of = "Terms", says = "a post gets a searcher (numbers 0 .. 10),")
    void eachPostGetsASearcher() {
        posts(11);
        for (int post = 0; post < 11; post++) {
            x.hunt(post);
            is("clean(1)", x.clean(1), post + 1);
        }
        is("hunt(11)", x.hunt(11), BAD);
        is("clean(3)", x.clean(3), 0);
    }

    @Sentence(of = "Terms", says = "or loses one (100 and the post);")
    void eachPostLosesASearcher() {
        posts(11);
        for (int post = 0; post < 11; post++) {
            hunt(post, 100 + post);
            is("never two: clean(1)", x.clean(1), 1);
        }
        is("hunt(111)", x.hunt(111), BAD);
        is("clean(3)", x.clean(3), 0);
    }

    @Sentence(of = "Terms", says = "searchers on one post are at most one.")
    void oneSearcherOnAPost() {
        posts(1);
        hunt(0, 0, 0);
        is("clean(1)", x.clean(1), 1);
        is("clean(3)", x.clean(3), 2);
        hunt(100, 100);
        is("one went, not two: clean(3)", x.clean(3), 3);
    }

    @Sentence(of = "Terms", says = "All ROADS are FOUL at first.")
    void allRoadsAreFoulAtFirst() {
        is("clean(0) without roads", x.clean(0), 0);
        x = Nets.complete(11);
        is("clean(0) of all", x.clean(0), 55);
        is("clean(2): not again", x.clean(2), 0);
    }

    @Sentence(of = "Terms", says = "A ROAD is CLEAN as soon as both its posts have searchers;")
    void roadsCleanWithTwoSearchers() {
        x = Nets.complete(3);
        hunt(0);
        is("one searcher: clean(0)", x.clean(0), 3);
        hunt(1);
        is("two searchers: clean(0)", x.clean(0), 2);
        hunt(2);
        is("three searchers: clean(0)", x.clean(0), 0);
    }

    @Sentence(of = "Terms", says = "a ROAD that is CLEAN is FOUL again as soon as a FOUL one has a post in common with it that has no searcher")
    void roadsFoulAgainWithoutASearcherBetween() {
        x = Nets.path(3);
        hunt(0, 1, 100);
        is("1 is between: clean(0)", x.clean(0), 1);
        is("1 is between: clean(2)", x.clean(2), 0);
        hunt(101);
        is("1 is gone: clean(0)", x.clean(0), 2);
        is("1 is gone: clean(2)", x.clean(2), 1);
    }

    @Sentence(of = "Terms", says = "a ROAD that is CLEAN is FOUL again as soon as a FOUL one has a post in common with it that has no searcher")
    void roadsStayCleanWithoutAFoulOne() {
        x = Nets.path(3);
        hunt(0, 1, 2, 101, 100, 102);
        is("none is foul: clean(0)", x.clean(0), 0);
        is("none is foul: clean(2)", x.clean(2), 0);
        x = Nets.of(4);
        x.weigh(0, 1, 1);
        x.weigh(2, 3, 1);
        hunt(0, 1, 100, 101);
        is("no post in common: clean(0)", x.clean(0), 1);
        is("no post in common: clean(2)", x.clean(2), 0);
    }

    @Sentence(of = "Terms", says = "(and so on).")
    void foulFromEndToEnd() {
        x = Nets.path(11);
        hunt(0, 1, 2, 3, 4, 5, 6, 7, 8, 9);
        hunt(101, 102, 103, 104, 105, 106, 107, 108);
        is("held at 9: clean(0)", x.clean(0), 1);
        hunt(109);
        is("clean(0)", x.clean(0), 10);
        is("clean(2): all nine at once", x.clean(2), 9);
    }

    @Sentence(of = "Terms", says = "(and so on).")
    void foulFromEndToEndTheOtherWay() {
        x = Nets.path(11);
        hunt(10, 9, 8, 7, 6, 5, 4, 3, 2, 1);
        hunt(109, 108, 107, 106, 105, 104, 103, 102);
        is("held at 1: clean(0)", x.clean(0), 1);
        hunt(101);
        is("clean(0)", x.clean(0), 10);
        is("clean(2): all nine at once", x.clean(2), 9);
    }

    @Sentence(of = "Terms", says = "A move that can not be (a searcher comes where one is,")
    void searcherComesWhereOneIs() {
        posts(11);
        hunt(10, 10);
        is("clean(3)", x.clean(3), 1);
        is("clean(1)", x.clean(1), 1);
    }

    @Sentence(of = "Terms", says = "or goes where none is,")
    void searcherGoesWhereNoneIs() {
        x = Nets.path(11);
        hunt(110, 0, 101);
        is("clean(3)", x.clean(3), 2);
        is("clean(0)", x.clean(0), 10);
        is("clean(1)", x.clean(1), 1);
    }

    @Sentence(of = "Terms", says = "or a post that there is not)")
    void searcherOfAPostThatThereIsNot() {
        posts(3);
        hunt(2, 3, 103);
        is("3 is the first that there is not: clean(3)", x.clean(3), 2);
        is("clean(1)", x.clean(1), 1);
        x.undo();
        is("2 is none any more: clean(3)", x.clean(3), 3);
        is("clean(1)", x.clean(1), 0);
        posts(2);
        is("both are there: clean(3)", x.clean(3), 0);
        is("clean(1)", x.clean(1), 2);
    }

    @Sentence(of = "Terms", says = "does nothing.")
    void idleMovesDoNothing() {
        x = Nets.path(3);
        hunt(0, 1);
        hunt(1, 0, 102, 3, 103, 110);
        is("clean(0)", x.clean(0), 1);
        is("clean(1)", x.clean(1), 2);
        is("clean(2)", x.clean(2), 0);
        is("clean(3)", x.clean(3), 6);
        is("count(6): they are moves", x.count(6), 8);
    }

    // ---- 5: in hand, changes

    @Sentence(of = "Terms", says = "IN HAND is a ROW (or less): posts as they were put, no one twice.")
    void inHandIsARowOrLess() {
        posts(3);
        inHand("nothing");
        is("put(2)", x.put(2), 1);
        inHand("one", 2);
        is("put(2) again", x.put(2), BAD);
        is("put(0)", x.put(0), 2);
        is("put(1)", x.put(1), 3);
        inHand("a row", 2, 0, 1);
        is("put(0) again", x.put(0), BAD);
    }

    @Sentence(of = "Terms", says = "CHANGES are the calls of post, sheet, lose, weigh, copy, pair, part that are not refused.")
    void changesOfEachKind() {
        is("post()", x.post(), 0);
        is("count(7)", x.count(7), 1);
        x.post();
        x.sheet(0, 1, 11);
        is("sheet: count(7)", x.count(7), 3);
        x.weigh(0, 1, 5);
        is("weigh: count(7)", x.count(7), 4);
        x.copy(0, 0, 0);
        is("copy: count(7)", x.count(7), 5);
        x.lose(0);
        is("lose: count(7)", x.count(7), 6);
        x.pair(0, 1);
        is("pair: count(7)", x.count(7), 7);
        x.part(0, 1);
        is("part: count(7)", x.count(7), 8);
    }

    @Sentence(of = "Terms", says = "CHANGES are the calls of post, sheet, lose, weigh, copy, pair, part that are not refused.")
    void changesThatChangeNothingToBeSeen() {
        x.post();
        x.sheet(0, 1, 1);
        x.sheet(0, 1, 1);
        is("the same sheet: count(7)", x.count(7), 3);
        x.weigh(0, 0, 0);
        is("the same weight: count(7)", x.count(7), 4);
        x.copy(0, 0, 1);
        is("a copy to itself: count(7)", x.count(7), 5);
        x.copy(0, 0, 0);
        is("a copy of no places: count(7)", x.count(7), 6);
        undo(4);
        is("about(0, 1): the first of the two sheets", x.about(0, 1), 1);
        x.post();
        x.pair(0, 1);
        x.pair(0, 1);
        is("the same pair: count(7)", x.count(7), 5);
        is("undo() of the same pair", x.undo(), 4);
        is("count(2)", x.count(2), 1);
        is("undo() of the pair", x.undo(), 3);
        is("count(2)", x.count(2), 0);
    }

    @Sentence(of = "Terms", says = "CHANGES are the calls of post, sheet, lose, weigh, copy, pair, part that are not refused.")
    void otherCallsAreNoChanges() {
        posts(2);
        hold(1, 0);
        x.move(0, 1);
        x.best(CUTS, 0);
        x.better(CUTS, 1);
        lay(3);
        x.rowOf();
        x.empty();
        hunt(0, 1);
        x.plan();
        x.calm();
        x.begin();
        is("count(7)", x.count(7), 2);
        is("undo()", x.undo(), 1);
        is("undo() is none: count(7)", x.count(7), 1);
        is("count(0)", x.count(0), 1);
    }

    @Sentence(of = "Terms", says = "undo() takes back the latest that is kept")
    void undoOfEachKind() {
        x = Nets.of(3);
        x.weigh(0, 1, 7);
        x.weigh(1, 2, 4);
        x.undo();
        is("weigh: road(1, 2)", x.road(1, 2), 0);
        x.copy(0, 2, 11);
        x.undo();
        is("copy: road(1, 2)", x.road(1, 2), 0);
        x.lose(0);
        x.undo();
        is("lose: road(0, 1)", x.road(0, 1), 7);
        is("lose: about(0, 1)", x.about(0, 1), 11);
        x.sheet(0, 2, 1);
        x.undo();
        is("sheet: road(0, 1)", x.road(0, 1), 7);
        is("sheet: about(0, 0)", x.about(0, 0), 1);
        x.pair(0, 1);
        x.undo();
        is("pair: count(2)", x.count(2), 0);
        x.pair(0, 1);
        x.part(0, 1);
        x.undo();
        is("part: count(2)", x.count(2), 1);
        is("part: about(0, 4)", x.about(0, 4), 1);
        x.post();
        x.undo();
        is("post: count(0)", x.count(0), 3);
        is("post: about(3, 0)", x.about(3, 0), BAD);
    }

    @Sentence(of = "Terms", says = "(NET alone; IN HAND, BAGS, the HUNT stay);")
    void undoOfTheNetAlone() {
        posts(2);
        hold(1, 0);
        lay(3, 1);
        hunt(1, 0, 101);
        is("undo()", x.undo(), 1);
        inHand("undo()", 1, 0);
        is("count(5)", x.count(5), 2);
        is("count(6)", x.count(6), 3);
        is("undo()", x.undo(), 0);
        inHand("undo() again", 1, 0);
        is("count(5) then", x.count(5), 2);
        is("count(6) then", x.count(6), 3);
        is("undo() of nothing", x.undo(), NO);
        inHand("undo() of nothing", 1, 0);
        posts(2);
        is("lawful() when they come again", x.lawful(), 1);
        is("rowOf() when they come again", x.rowOf(), 2);
        is("clean(1) when they come again", x.clean(1), 2);
    }

    @Sentence(of = "Terms", says = "the latest 8 are kept.")
    void eightChangesAreKept() {
        posts(8);
        is("count(7) of 8", x.count(7), 8);
        x.post();
        is("count(7) of 9", x.count(7), 8);
        undo(8);
        is("count(0): the first is not taken back", x.count(0), 1);
        is("undo()", x.undo(), NO);
    }

    @Sentence(of = "Terms", says = "the latest 8 are kept.")
    void eightChangesAreKeptTimeAndAgain() {
        x.post();
        x.sheet(0, 1, 1);
        for (int weight = 1; weight <= 12; weight++) {
            x.weigh(0, 0, weight);
        }
        undo(5);
        for (int weight = 101; weight <= 104; weight++) {
            x.weigh(0, 0, weight);
        }
        is("3 of the old ones and 4 new ones: count(7)", x.count(7), 7);
        undo(6);
        is("5 was there ahead of 6", x.weigh(0, 0, 0), 5);
        undo(2);
        is("4 was there ahead of 5", x.weigh(0, 0, 0), 4);
        x.undo();
        is("undo() of no more", x.undo(), NO);
    }

    @Sentence(of = "Terms", says = "FINDINGS: NOTHING: a SHEET is MISSING;")
    void findingNothing() {
        posts(2);
        x.sheet(0, 0, 0);
        is("lose(1)", x.lose(1), NOTHING);
        is("weigh(1, 0, 0)", x.weigh(1, 0, 0), NOTHING);
        is("copy(0, 1, 0)", x.copy(0, 1, 0), NOTHING);
        is("copy(1, 0, 0)", x.copy(1, 0, 0), NOTHING);
        is("copy(0, 0, 0): a sheet without places is there", x.copy(0, 0, 0), 0);
    }

    @Sentence(of = "Terms", says = "INDEX: there are no such places;")
    void findingIndex() {
        posts(1);
        x.sheet(0, 0, 0);
        is("weigh(0, 0, 0)", x.weigh(0, 0, 0), INDEX);
        is("copy(0, 0, 1)", x.copy(0, 0, 1), INDEX);
        is("copy(0, 0, -1)", x.copy(0, 0, -1), INDEX);
        x.sheet(0, 0, 1);
        is("weigh(0, 0, 0) of one place", x.weigh(0, 0, 0), 0);
        is("weigh(0, 1, 0) of one place", x.weigh(0, 1, 0), INDEX);
        is("copy(0, 0, 1) of one place", x.copy(0, 0, 1), 1);
        is("copy(0, 0, 2) of one place", x.copy(0, 0, 2), INDEX);
    }

    @Sentence(of = "Terms", says = "SIZE: a number of places is below 0.")
    void findingSize() {
        posts(1);
        is("sheet(0, 0, -1)", x.sheet(0, 0, -1), SIZE);
        is("sheet(0, 2, MIN)", x.sheet(0, 2, MIN), SIZE);
        is("sheet(0, 0, 0)", x.sheet(0, 0, 0), 0);
    }
}
