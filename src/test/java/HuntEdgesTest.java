/** The boundaries that promises 30 to 33 and 35 name: hunts, and what is counted. */
final class HuntEdgesTest extends Edges {
    public static void main(String[] args) throws ReflectiveOperationException {
        runAll(HuntEdgesTest.class);
    }

    /** Moves that there can be many of: a searcher comes and goes. */
    private void toAndFro(int moves) {
        for (int i = 0; i < moves; i++) {
            x.hunt(i % 2 == 0 ? 0 : 100);
        }
    }

    private void cleaned(String what, int foul, int most, int again, int idle) {
        is(what + ": clean(0)", x.clean(0), foul);
        is(what + ": clean(1)", x.clean(1), most);
        is(what + ": clean(2)", x.clean(2), again);
        is(what + ": clean(3)", x.clean(3), idle);
    }

    // ---- 30: hunt

    @Sentence(of = "Promise 30", says = "One more move of the HUNT: how many.")
    void huntUpToTheLast() {
        for (int i = 1; i <= 60; i++) {
            is("hunt(0) no. " + i, x.hunt(0), i);
        }
        is("count(6)", x.count(6), 60);
    }

    @Sentence(of = "Promise 30", says = "One more move of the HUNT: how many.")
    void huntOfAPostThatThereIsNotIsAMove() {
        is("hunt(10) of a net without posts", x.hunt(10), 1);
        is("hunt(110) of a net without posts", x.hunt(110), 2);
        is("clean(3)", x.clean(3), 2);
    }

    @Sentence(of = "Promise 30", says = "BAD: it is not 0 .. 10 or 100 .. 110")
    void huntOfASearcherWhoComes() {
        posts(11);
        is("hunt(-1)", x.hunt(-1), BAD);
        is("hunt(0)", x.hunt(0), 1);
        is("hunt(10)", x.hunt(10), 2);
        is("hunt(11)", x.hunt(11), BAD);
        is("count(6)", x.count(6), 2);
        cleaned("two came", 0, 2, 0, 0);
    }

    @Sentence(of = "Promise 30", says = "BAD: it is not 0 .. 10 or 100 .. 110")
    void huntOfASearcherWhoGoes() {
        posts(11);
        hunt(0, 10);
        is("hunt(99)", x.hunt(99), BAD);
        is("hunt(100)", x.hunt(100), 3);
        is("hunt(110)", x.hunt(110), 4);
        is("hunt(111)", x.hunt(111), BAD);
        is("count(6)", x.count(6), 4);
        cleaned("two came and went", 0, 2, 0, 0);
    }

    @Sentence(of = "Promise 30", says = "BAD: it is not 0 .. 10 or 100 .. 110")
    void huntOfNoMoveFarOff() {
        for (int move : new int[] {12, 50, 98, 112, 200, 210, 256, -100, -110, 1 << 16, MIN, MIN + 100, MAX}) {
            is("hunt(" + move + ")", x.hunt(move), BAD);
        }
        is("count(6)", x.count(6), 0);
    }

    @Sentence(of = "Promise 30", says = "FULL.")
    void sixtyFirstMoveIsRefused() {
        posts(1);
        toAndFro(59);
        is("hunt(100) no. 60", x.hunt(100), 60);
        is("hunt(0) no. 61", x.hunt(0), FULL);
        is("hunt(100) no. 61", x.hunt(100), FULL);
        is("count(6)", x.count(6), 60);
        cleaned("60 moves", 0, 1, 0, 0);
        x.calm();
        is("hunt(0) then", x.hunt(0), 1);
    }

    @Sentence(of = "Promise 30", says = "BAD: it is not 0 .. 10 or 100 .. 110; FULL.")
    void huntIsBadAheadOfFull() {
        toAndFro(60);
        is("hunt(11)", x.hunt(11), BAD);
        is("hunt(111)", x.hunt(111), BAD);
        is("hunt(0)", x.hunt(0), FULL);
    }

    // ---- 31: calm

    @Sentence(of = "Promise 31", says = "The HUNT is empty: how many moves it had.")
    void calmOfNoMoves() {
        is("calm()", x.calm(), 0);
        is("count(6)", x.count(6), 0);
    }

    @Sentence(of = "Promise 31", says = "The HUNT is empty: how many moves it had.")
    void calmOfAllMoves() {
        x = Nets.path(2);
        toAndFro(58);
        hunt(0, 1);
        cleaned("60 moves", 0, 2, 0, 0);
        is("calm()", x.calm(), 60);
        is("count(6)", x.count(6), 0);
        cleaned("none", 1, 0, 0, 0);
        is("calm() again", x.calm(), 0);
    }

    @Sentence(of = "Promise 31", says = "The HUNT is empty: how many moves it had.")
    void calmLeavesNoSearcher() {
        x = Nets.path(2);
        hunt(0);
        x.calm();
        hunt(1);
        cleaned("the first is gone", 1, 1, 0, 0);
    }

    // ---- 32: plan

    @Sentence(of = "Promise 32", says = "The HUNT is that of the ROW IN HAND:")
    void planTakesThePlaceOfTheHunt() {
        x = Nets.path(2);
        hold(0, 1);
        hunt(5, 6, 7);
        is("plan()", x.plan(), 4);
        is("count(6)", x.count(6), 4);
        cleaned("plan", 0, 2, 0, 0);
    }

    @Sentence(of = "Promise 32", says = "The HUNT is that of the ROW IN HAND:")
    void planOfTheEmptyRow() {
        hunt(5, 6);
        is("plan()", x.plan(), 0);
        is("count(6)", x.count(6), 0);
    }

    @Sentence(of = "Promise 32", says = "for each BAG those who are not in it any more go, by their numbers, then those who are new in it come, by theirs;")
    void planLetsGoAheadOfWhoComes() {
        posts(11);
        hold(0, 1, 2, 3, 4, 5, 6, 7, 8, 9, 10);
        is("plan() without roads", x.plan(), 22);
        cleaned("never two at once", 0, 1, 0, 0);
    }

    @Sentence(of = "Promise 32", says = "for each BAG those who are not in it any more go, by their numbers, then those who are new in it come, by theirs;")
    void planLetsNobodyGoWhoIsOpen() {
        x = Nets.complete(11);
        hold(10, 9, 8, 7, 6, 5, 4, 3, 2, 1, 0);
        is("plan() with all roads", x.plan(), 22);
        cleaned("all at once", 0, 11, 0, 0);
    }

    @Sentence(of = "Promise 32", says = "for each BAG those who are not in it any more go, by their numbers, then those who are new in it come, by theirs;")
    void planLetsTwoGoAtOnce() {
        x = Nets.of(4);
        x.weigh(0, 2, 1);
        x.weigh(1, 2, 1);
        hold(0, 1, 2, 3);
        // bags 0; 0 and 1; 0, 1 and 2; 3
        is("plan()", x.plan(), 8);
        cleaned("three at once", 0, 3, 0, 0);
        x.weigh(2, 3, 1);
        // with a road that the plan does not know: 0, 1 and 2 go ahead of 3
        cleaned("on another net", 3, 3, 2, 0);
    }

    @Sentence(of = "Promise 32", says = "at the end all go")
    void planLetsAllGoAtTheEnd() {
        x = Nets.complete(3);
        hold(2, 1, 0);
        is("plan()", x.plan(), 6);
        hunt(100, 101, 102);
        is("those who go once more do nothing: clean(3)", x.clean(3), 3);
        hunt(0, 1, 2);
        is("those who come do: clean(3)", x.clean(3), 3);
    }

    @Sentence(of = "Promise 32", says = ": how many moves.")
    void planOfOnePostAndOfEleven() {
        x.post();
        hold(0);
        is("plan() of one post", x.plan(), 2);
        is("count(6)", x.count(6), 2);
        posts(10);
        hold(0, 1, 2, 3, 4, 5, 6, 7, 8, 9, 10);
        is("plan() of eleven", x.plan(), 22);
        is("count(6)", x.count(6), 22);
    }

    @Sentence(of = "Promise 32", says = "NO;")
    void planOfNoRow() {
        posts(3);
        toAndFro(7);
        is("plan() of nothing in hand", x.plan(), NO);
        hold(0, 1);
        is("plan() of all but one", x.plan(), NO);
        hold(2, 0);
        x.undo();
        is("plan() of one that is none", x.plan(), NO);
        is("count(6): the hunt stays", x.count(6), 7);
        cleaned("the hunt stays", 0, 1, 0, 0);
    }

    /** Each post comes and goes once, so that no plan has more than 22: what is told of 60 is that it never matters. */
    @Sentence(of = "Promise 32", says = "FULL: more than 60 (the HUNT stays).")
    void planOfTheMostMovesThereCanBe() {
        x = Nets.star(11);
        hold(1, 2, 3, 4, 5, 0, 6, 7, 8, 9, 10);
        toAndFro(60);
        is("plan() where 60 moves are", x.plan(), 22);
        is("count(6)", x.count(6), 22);
        cleaned("plan", 0, 6, 0, 0);
    }

    // ---- 33: clean

    @Sentence(of = "Promise 33", says = "Of the HUNT, done from the beginning:")
    void cleanOfAnEmptyHunt() {
        cleaned("without posts", 0, 0, 0, 0);
        x = Nets.complete(11);
        cleaned("of the largest net", 55, 0, 0, 0);
    }

    @Sentence(of = "Promise 33", says = "Of the HUNT, done from the beginning:")
    void cleanAsOftenAsAsked() {
        x = Nets.path(3);
        hunt(1, 0, 101, 101, 5);
        cleaned("once", 2, 2, 1, 2);
        cleaned("twice", 2, 2, 1, 2);
        is("count(6)", x.count(6), 5);
    }

    @Sentence(of = "Promise 33", says = "what 0 ROADS that are FOUL at the end,")
    void cleanOfFoulRoads() {
        x = Nets.path(2);
        is("all: clean(0)", x.clean(0), 1);
        hunt(0);
        is("one searcher: clean(0)", x.clean(0), 1);
        hunt(1);
        is("two searchers: clean(0)", x.clean(0), 0);
        hunt(100, 101);
        is("all gone: clean(0)", x.clean(0), 0);
    }

    @Sentence(of = "Promise 33", says = "1 the most searchers at once,")
    void cleanOfTheMostSearchers() {
        posts(11);
        is("none: clean(1)", x.clean(1), 0);
        for (int post = 0; post < 11; post++) {
            x.hunt(post);
            is("clean(1)", x.clean(1), post + 1);
        }
        for (int post = 0; post < 11; post++) {
            x.hunt(100 + post);
        }
        is("all gone: clean(1)", x.clean(1), 11);
        hunt(0, 1);
        is("two come again: clean(1)", x.clean(1), 11);
    }

    @Sentence(of = "Promise 33", says = "2 how often a ROAD became FOUL again,")
    void cleanOfRoadsFoulAgain() {
        x = Nets.path(3);
        hunt(0, 1);
        is("clean(2): roads foul at first are not foul again", x.clean(2), 0);
        hunt(101);
        is("clean(2): once", x.clean(2), 1);
        hunt(1, 101);
        is("clean(2): the same road again", x.clean(2), 2);
        hunt(101, 102);
        is("clean(2): idle moves", x.clean(2), 2);
    }

    @Sentence(of = "Promise 33", says = "2 how often a ROAD became FOUL again,")
    void cleanOfAllRoadsFoulAgainAtOnce() {
        x = Nets.complete(11);
        for (int post = 0; post < 10; post++) {
            x.hunt(post);
        }
        is("clean(0): roads to 10", x.clean(0), 10);
        x.hunt(100);
        is("clean(2): the roads of 0", x.clean(2), 9);
        for (int post = 1; post < 10; post++) {
            x.hunt(100 + post);
        }
        is("clean(0): all", x.clean(0), 55);
        is("clean(2): all that were clean", x.clean(2), 45);
    }

    @Sentence(of = "Promise 33", says = "3 moves that did nothing.")
    void cleanOfIdleMoves() {
        posts(1);
        is("no moves: clean(3)", x.clean(3), 0);
        hunt(0, 100);
        is("none of two: clean(3)", x.clean(3), 0);
        for (int i = 0; i < 58; i++) {
            x.hunt(100);
        }
        is("58 of 60: clean(3)", x.clean(3), 58);
        x.calm();
        for (int i = 0; i < 60; i++) {
            x.hunt(1);
        }
        is("all: clean(3)", x.clean(3), 60);
    }

    @Sentence(of = "Promise 33", says = "BAD.")
    void cleanOfNothingThatCanBeAsked() {
        x = Nets.path(3);
        hunt(0, 1);
        for (int what : outside(4)) {
            is("clean(" + what + ")", x.clean(what), BAD);
        }
    }

    // ---- 35: count

    @Sentence(of = "Promise 35", says = "What 0 POSTS,")
    void countOfPosts() {
        for (int many = 0; many <= 11; many++) {
            is("count(0)", x.count(0), many);
            x.post();
        }
        is("count(0) of a full net", x.count(0), 11);
    }

    @Sentence(of = "Promise 35", says = "1 ROADS,")
    void countOfRoads() {
        posts(11);
        is("count(1) of none", x.count(1), 0);
        x = Nets.complete(11);
        is("count(1) of all", x.count(1), 55);
        x.weigh(10, 0, 0);
        is("count(1) of all but one", x.count(1), 54);
    }

    @Sentence(of = "Promise 35", says = "2 PAIRS,")
    void countOfPairs() {
        posts(9);
        is("count(2) of none", x.count(2), 0);
        for (int one = 0; one < 9; one++) {
            for (int other = one + 1; other < 9; other++) {
                x.pair(one, other);
            }
        }
        is("count(2): 30 of 36 that were asked for", x.count(2), 30);
    }

    @Sentence(of = "Promise 35", says = "3 SHEETS that are not MISSING,")
    void countOfSheets() {
        posts(11);
        is("count(3) of none", x.count(3), 0);
        for (int post = 0; post < 11; post++) {
            x.sheet(post, 0, 0);
        }
        is("count(3) of all, without places", x.count(3), 11);
        x.lose(10);
        is("count(3) of all but one", x.count(3), 10);
    }

    @Sentence(of = "Promise 35", says = "4 POSTS IN HAND,")
    void countOfPostsInHand() {
        posts(11);
        is("count(4) of nothing", x.count(4), 0);
        hold(0, 1, 2, 3, 4, 5, 6, 7, 8, 9, 10);
        is("count(4) of all", x.count(4), 11);
        undo(8);
        is("count(4): those that there are not any more too", x.count(4), 11);
    }

    @Sentence(of = "Promise 35", says = "5 BAGS IN HAND,")
    void countOfBags() {
        is("count(5) of none", x.count(5), 0);
        for (int i = 0; i < 21; i++) {
            x.lay(0);
        }
        is("count(5): 20 of 21 that were laid", x.count(5), 20);
    }

    @Sentence(of = "Promise 35", says = "6 moves of the HUNT,")
    void countOfMoves() {
        is("count(6) of none", x.count(6), 0);
        toAndFro(61);
        is("count(6): 60 of 61 that were told", x.count(6), 60);
    }

    @Sentence(of = "Promise 35", says = "7 changes that are kept,")
    void countOfChanges() {
        for (int many = 0; many <= 8; many++) {
            is("count(7)", x.count(7), many);
            x.post();
        }
        is("count(7) of nine", x.count(7), 8);
        undo(8);
        is("count(7) of none", x.count(7), 0);
    }

    @Sentence(of = "Promise 35", says = "8 the weight of all ROADS.")
    void countOfWeight() {
        posts(11);
        is("count(8) of none", x.count(8), 0);
        x.sheet(0, 2, 11);
        for (int place = 0; place < 11; place++) {
            x.weigh(0, place, 1000);
        }
        for (int post = 1; post < 11; post++) {
            x.sheet(post, 2, 11);
            x.copy(0, post, 11);
        }
        is("count(8) of the heaviest net", x.count(8), 110000);
    }

    @Sentence(of = "Promise 35", says = "BAD.")
    void countOfNothingThatCanBeAsked() {
        posts(3);
        for (int what : outside(9)) {
            is("count(" + what + ")", x.count(what), BAD);
        }
    }
}
