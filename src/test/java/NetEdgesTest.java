/** The boundaries that promises 1 to 10 and 34 name: the net, its changes, and how they are taken back. */
final class NetEdgesTest extends Edges {
    public static void main(String[] args) throws ReflectiveOperationException {
        runAll(NetEdgesTest.class);
    }

    /** Posts, each with a sheet of one width and so many places. */
    private void sheets(int posts, int width, int places) {
        posts(posts);
        for (int post = 0; post < posts; post++) {
            x.sheet(post, width, places);
        }
    }

    /** Pairs of each post with all behind it by number, up to so many. */
    private int pairs(int posts, int most) {
        int made = 0;
        for (int one = 0; one < posts; one++) {
            for (int other = one + 1; other < posts && made < most; other++) {
                made++;
                x.pair(one, other);
            }
        }
        return made;
    }

    // ---- 1: a new object

    @Sentence(of = "Promise 1", says = "No POSTS")
    void newObjectHasNoPosts() {
        is("count(0)", x.count(0), 0);
        is("about(0, 1)", x.about(0, 1), BAD);
        is("put(0)", x.put(0), BAD);
    }

    @Sentence(of = "Promise 1", says = "No POSTS")
    void newObjectHasNothingOfAnother() {
        posts(11);
        x.pair(0, 1);
        NarrowRows other = new NarrowRows();
        for (int what = 0; what <= 8; what++) {
            is("count(" + what + ") of a new one beside it", other.count(what), 0);
        }
        is("post() of the new one", other.post(), 0);
        is("count(0) of the old one", x.count(0), 11);
    }

    @Sentence(of = "Promise 1", says = "nothing IN HAND")
    void newObjectHasNothingInHand() {
        is("count(4)", x.count(4), 0);
        is("at(0)", x.at(0), BAD);
        is("begin()", x.begin(), 0);
    }

    // ---- 2: post

    @Sentence(of = "Promise 2", says = "One more POST: its number.")
    void firstPostIsZero() {
        is("post()", x.post(), 0);
        is("count(0)", x.count(0), 1);
    }

    @Sentence(of = "Promise 2", says = "One more POST: its number.")
    void eleventhPostIsTen() {
        posts(10);
        is("post() no. 11", x.post(), 10);
        is("count(0)", x.count(0), 11);
    }

    @Sentence(of = "Promise 2", says = "One more POST: its number.")
    void postAfterUndoHasTheNumberAgain() {
        posts(2);
        x.undo();
        is("post()", x.post(), 1);
    }

    @Sentence(of = "Promise 2", says = "FULL.")
    void twelfthPostIsRefused() {
        posts(11);
        is("post() no. 12", x.post(), FULL);
        is("count(0)", x.count(0), 11);
        is("post() once more", x.post(), FULL);
    }

    @Sentence(of = "Promise 2", says = "FULL.")
    void fullNetIsNotFullAfterUndo() {
        posts(11);
        x.undo();
        is("post()", x.post(), 10);
        is("post() then", x.post(), FULL);
    }

    // ---- 3: sheet

    @Sentence(of = "Promise 3", says = "The SHEET of a POST is new, of a WIDTH,")
    void sheetOfEachWidth() {
        posts(1);
        for (int width = 0; width <= 2; width++) {
            is("sheet(0, " + width + ", 4)", x.sheet(0, width, 4), 4);
            is("about(0, 0)", x.about(0, 0), width);
        }
    }

    @Sentence(of = "Promise 3", says = "The SHEET of a POST is new, of a WIDTH,")
    void sheetOfTheLastPost() {
        posts(11);
        is("sheet(10, 2, 11)", x.sheet(10, 2, 11), 11);
        is("about(10, 0)", x.about(10, 0), 2);
        is("count(3)", x.count(3), 1);
    }

    @Sentence(of = "Promise 3", says = "its first n places (0 .. 11) 0,")
    void sheetOfNoPlaces() {
        posts(2);
        is("sheet(0, 1, 0)", x.sheet(0, 1, 0), 0);
        is("it is there: about(0, 0)", x.about(0, 0), 1);
        is("without places: about(0, 1)", x.about(0, 1), 0);
        is("weigh(0, 0, 1)", x.weigh(0, 0, 1), INDEX);
    }

    @Sentence(of = "Promise 3", says = "its first n places (0 .. 11) 0,")
    void sheetOfElevenPlaces() {
        posts(1);
        is("sheet(0, 1, 11)", x.sheet(0, 1, 11), 11);
        is("about(0, 1)", x.about(0, 1), 11);
        is("weigh(0, 10, 1)", x.weigh(0, 10, 1), 0);
    }

    @Sentence(of = "Promise 3", says = "its first n places (0 .. 11) 0,")
    void newSheetHasNothingOfTheOld() {
        sheets(2, 1, 11);
        for (int place = 0; place < 11; place++) {
            x.weigh(0, place, 9);
        }
        x.sheet(0, 1, 11);
        is("road(0, 1)", x.road(0, 1), 0);
        for (int place = 0; place < 11; place++) {
            is("weigh(0, " + place + ", 0)", x.weigh(0, place, 0), 0);
        }
    }

    @Sentence(of = "Promise 3", says = "the others not there (they count as 0, and are beyond)")
    void placesBehindTheLastAreBeyond() {
        posts(4);
        x.sheet(0, 1, 3);
        is("weigh(0, 2, 5)", x.weigh(0, 2, 5), 0);
        is("weigh(0, 3, 5)", x.weigh(0, 3, 5), INDEX);
        is("road(0, 2)", x.road(0, 2), 5);
        is("road(0, 3)", x.road(0, 3), 0);
    }

    @Sentence(of = "Promise 3", says = "the others not there (they count as 0, and are beyond)")
    void placesOfALongerSheetBeforeCountAsZero() {
        sheets(4, 1, 11);
        x.weigh(0, 3, 7);
        x.sheet(0, 1, 3);
        is("road(0, 3) of a shorter sheet", x.road(0, 3), 0);
        x.sheet(0, 1, 4);
        is("road(0, 3) of a longer sheet", x.road(0, 3), 0);
        is("weigh(0, 3, 1)", x.weigh(0, 3, 1), 0);
    }

    @Sentence(of = "Promise 3", says = ": n.")
    void sheetAnswersHowManyPlaces() {
        posts(1);
        for (int n = 0; n <= 11; n++) {
            is("sheet(0, 0, " + n + ")", x.sheet(0, 0, n), n);
        }
    }

    @Sentence(of = "Promise 3", says = "BAD: post,")
    void sheetOfNoPost() {
        is("sheet(0, 0, 1) of a net without posts", x.sheet(0, 0, 1), BAD);
        posts(3);
        for (int post : outside(3)) {
            is("sheet(" + post + ", 0, 1)", x.sheet(post, 0, 1), BAD);
        }
        is("count(3)", x.count(3), 0);
    }

    @Sentence(of = "Promise 3", says = "width,")
    void sheetOfNoWidth() {
        posts(1);
        for (int width : outside(3)) {
            is("sheet(0, " + width + ", 1)", x.sheet(0, width, 1), BAD);
        }
        is("count(3)", x.count(3), 0);
    }

    @Sentence(of = "Promise 3", says = "n above 11")
    void sheetOfTooManyPlaces() {
        posts(1);
        for (int n : new int[] {12, 13, 1 << 16, MAX}) {
            is("sheet(0, 0, " + n + ")", x.sheet(0, 0, n), BAD);
        }
        is("count(3)", x.count(3), 0);
    }

    @Sentence(of = "Promise 3", says = "SIZE.")
    void sheetOfLessThanNoPlaces() {
        posts(1);
        for (int n : new int[] {-1, -11, MIN}) {
            is("sheet(0, 0, " + n + ")", x.sheet(0, 0, n), SIZE);
        }
        is("count(3)", x.count(3), 0);
    }

    @Sentence(of = "Promise 3", says = "BAD: post, width, n above 11; SIZE.")
    void sheetIsBadAheadOfSize() {
        posts(1);
        is("sheet(1, 0, -1)", x.sheet(1, 0, -1), BAD);
        is("sheet(-1, 0, -1)", x.sheet(-1, 0, -1), BAD);
        is("sheet(0, 3, -1)", x.sheet(0, 3, -1), BAD);
        is("sheet(0, -1, MIN)", x.sheet(0, -1, MIN), BAD);
    }

    // ---- 4: lose

    @Sentence(of = "Promise 4", says = "The SHEET of a POST is MISSING then: 0.")
    void loseLeavesNoSheet() {
        sheets(2, 1, 11);
        x.weigh(0, 1, 5);
        is("lose(0)", x.lose(0), 0);
        is("about(0, 0)", x.about(0, 0), NONE);
        is("about(0, 1)", x.about(0, 1), 0);
        is("road(0, 1)", x.road(0, 1), 0);
        is("weigh(0, 1, 5)", x.weigh(0, 1, 5), NOTHING);
        is("count(3)", x.count(3), 1);
    }

    @Sentence(of = "Promise 4", says = "The SHEET of a POST is MISSING then: 0.")
    void sheetAfterLoseHasNothingOfTheOld() {
        sheets(2, 1, 11);
        x.weigh(0, 1, 5);
        x.lose(0);
        x.sheet(0, 1, 11);
        is("road(0, 1)", x.road(0, 1), 0);
        is("weigh(0, 1, 1)", x.weigh(0, 1, 1), 0);
    }

    @Sentence(of = "Promise 4", says = "The SHEET of a POST is MISSING then: 0.")
    void sheetOfNoPlacesCanBeLost() {
        posts(1);
        x.sheet(0, 0, 0);
        is("lose(0)", x.lose(0), 0);
        is("about(0, 0)", x.about(0, 0), NONE);
    }

    @Sentence(of = "Promise 4", says = "BAD")
    void loseOfNoPost() {
        is("lose(0) of a net without posts", x.lose(0), BAD);
        sheets(3, 1, 11);
        for (int post : outside(3)) {
            is("lose(" + post + ")", x.lose(post), BAD);
        }
        is("count(3)", x.count(3), 3);
    }

    @Sentence(of = "Promise 4", says = "NOTHING")
    void loseOfAMissingSheet() {
        posts(2);
        is("lose(1) of a new post", x.lose(1), NOTHING);
        x.sheet(1, 0, 1);
        x.lose(1);
        is("lose(1) again", x.lose(1), NOTHING);
        is("count(7): two posts, a sheet, a loss", x.count(7), 4);
    }

    // ---- 5: weigh

    @Sentence(of = "Promise 5", says = "A place of a SHEET has a weight: what it was.")
    void weighAnswersWhatWasThere() {
        sheets(1, 2, 11);
        is("weigh(0, 0, 1000)", x.weigh(0, 0, 1000), 0);
        is("weigh(0, 0, 0)", x.weigh(0, 0, 0), 1000);
        is("weigh(0, 0, 7)", x.weigh(0, 0, 7), 0);
        is("weigh(0, 0, 7): the same", x.weigh(0, 0, 7), 7);
        is("weigh(0, 0, 8)", x.weigh(0, 0, 8), 7);
    }

    @Sentence(of = "Promise 5", says = "A place of a SHEET has a weight: what it was.")
    void weighChangesOnePlaceAlone() {
        sheets(2, 1, 11);
        for (int place = 0; place < 11; place++) {
            is("weigh(1, " + place + ", place and 1)", x.weigh(1, place, place + 1), 0);
        }
        for (int place = 0; place < 11; place++) {
            is("weigh(1, " + place + ", 0)", x.weigh(1, place, 0), place + 1);
            is("weigh(0, " + place + ", 0): the other sheet", x.weigh(0, place, 0), 0);
        }
    }

    @Sentence(of = "Promise 5", says = "BAD: post")
    void weighOfNoPost() {
        is("weigh(0, 0, 1) of a net without posts", x.weigh(0, 0, 1), BAD);
        sheets(3, 1, 11);
        for (int post : outside(3)) {
            is("weigh(" + post + ", 0, 1)", x.weigh(post, 0, 1), BAD);
        }
        is("count(8)", x.count(8), 0);
    }

    @Sentence(of = "Promise 5", says = "NOTHING")
    void weighOfAMissingSheet() {
        posts(2);
        is("weigh(0, 1, 1) of a new post", x.weigh(0, 1, 1), NOTHING);
        x.sheet(0, 1, 11);
        x.lose(0);
        is("weigh(0, 1, 1) of a lost sheet", x.weigh(0, 1, 1), NOTHING);
    }

    @Sentence(of = "Promise 5", says = "INDEX: place")
    void weighOfNoPlace() {
        sheets(2, 1, 5);
        is("weigh(0, 4, 1): the last place", x.weigh(0, 4, 1), 0);
        for (int place : outside(5)) {
            is("weigh(0, " + place + ", 1)", x.weigh(0, place, 1), INDEX);
        }
    }

    @Sentence(of = "Promise 5", says = "INDEX: place")
    void weighOfNoPlaceOfAFullSheet() {
        sheets(2, 1, 11);
        is("weigh(0, 10, 1): the last place", x.weigh(0, 10, 1), 0);
        is("weigh(0, 11, 1)", x.weigh(0, 11, 1), INDEX);
        is("weigh(1, 0, 0): the next sheet", x.weigh(1, 0, 0), 0);
        is("weigh(1, -1, 1)", x.weigh(1, -1, 1), INDEX);
        is("weigh(0, 10, 0): the sheet ahead", x.weigh(0, 10, 0), 1);
    }

    @Sentence(of = "Promise 5", says = "BAD: the weight is not one of the WIDTH.")
    void weightAboveTheWidth() {
        posts(1);
        int[] most = {127, 1000, 1000};
        for (int width = 0; width <= 2; width++) {
            x.sheet(0, width, 1);
            is("width " + width + ": the most", x.weigh(0, 0, most[width]), 0);
            is("width " + width + ": the most and 1", x.weigh(0, 0, most[width] + 1), BAD);
            is("width " + width + ": MAX", x.weigh(0, 0, MAX), BAD);
            is("width " + width + ": is as it was", x.weigh(0, 0, 0), most[width]);
        }
    }

    @Sentence(of = "Promise 5", says = "BAD: the weight is not one of the WIDTH.")
    void weightBelowZero() {
        posts(1);
        for (int width = 0; width <= 2; width++) {
            x.sheet(0, width, 1);
            is("width " + width + ": 0", x.weigh(0, 0, 0), 0);
            is("width " + width + ": -1", x.weigh(0, 0, -1), BAD);
            is("width " + width + ": MIN", x.weigh(0, 0, MIN), BAD);
            is("width " + width + ": is as it was", x.weigh(0, 0, 0), 0);
        }
    }

    @Sentence(of = "Promise 5", says = "BAD: post; NOTHING; INDEX: place; BAD: the weight is not one of the WIDTH.")
    void weighRefusesInItsOrder() {
        posts(2);
        x.sheet(0, 0, 2);
        is("no post, no place, no weight", x.weigh(2, -1, -1), BAD);
        is("no sheet, no place, no weight", x.weigh(1, -1, -1), NOTHING);
        is("no sheet, no weight", x.weigh(1, 0, 1001), NOTHING);
        is("no place, no weight", x.weigh(0, 2, 128), INDEX);
        is("no weight", x.weigh(0, 1, 128), BAD);
    }

    // ---- 6: copy

    @Sentence(of = "Promise 6", says = "So many places of a SHEET, from its first on, are those of another SHEET of the same WIDTH: many.")
    void copyOfNoPlaces() {
        sheets(3, 1, 11);
        x.weigh(0, 2, 7);
        x.weigh(1, 0, 5);
        is("copy(0, 1, 0)", x.copy(0, 1, 0), 0);
        is("road(0, 1)", x.road(0, 1), 5);
        is("road(1, 2)", x.road(1, 2), 0);
    }

    @Sentence(of = "Promise 6", says = "So many places of a SHEET, from its first on, are those of another SHEET of the same WIDTH: many.")
    void copyOfTheFirstPlaceAlone() {
        sheets(2, 1, 11);
        x.weigh(0, 0, 3);
        x.weigh(0, 1, 4);
        x.weigh(1, 1, 9);
        is("copy(0, 1, 1)", x.copy(0, 1, 1), 1);
        is("place 0 is copied", x.weigh(1, 0, 0), 3);
        is("place 1 is not", x.weigh(1, 1, 0), 9);
        is("the first sheet stays", x.weigh(0, 0, 0), 3);
    }

    @Sentence(of = "Promise 6", says = "So many places of a SHEET, from its first on, are those of another SHEET of the same WIDTH: many.")
    void copyOfAllPlaces() {
        sheets(3, 2, 11);
        for (int place = 0; place < 11; place++) {
            x.weigh(1, place, 100 + place);
        }
        is("copy(1, 2, 11)", x.copy(1, 2, 11), 11);
        for (int place = 0; place < 11; place++) {
            is("weigh(2, " + place + ", 0)", x.weigh(2, place, 0), 100 + place);
            is("weigh(0, " + place + ", 0): a third sheet", x.weigh(0, place, 0), 0);
        }
    }

    @Sentence(of = "Promise 6", says = "BAD: posts")
    void copyOfNoPost() {
        is("copy(0, 0, 0) of a net without posts", x.copy(0, 0, 0), BAD);
        sheets(3, 1, 11);
        for (int post : outside(3)) {
            is("copy(" + post + ", 0, 1)", x.copy(post, 0, 1), BAD);
            is("copy(0, " + post + ", 1)", x.copy(0, post, 1), BAD);
            is("copy(" + post + ", " + post + ", 1)", x.copy(post, post, 1), BAD);
        }
    }

    @Sentence(of = "Promise 6", says = "NOTHING: one is MISSING")
    void copyWithAMissingSheet() {
        posts(3);
        x.sheet(0, 1, 11);
        is("copy(0, 1, 1): the second is missing", x.copy(0, 1, 1), NOTHING);
        is("copy(1, 0, 1): the first is missing", x.copy(1, 0, 1), NOTHING);
        is("copy(1, 2, 0): both are", x.copy(1, 2, 0), NOTHING);
        is("copy(1, 1, 0): the same one is", x.copy(1, 1, 0), NOTHING);
        is("count(3)", x.count(3), 1);
    }

    @Sentence(of = "Promise 6", says = "NO: unlike WIDTHS")
    void copyOfUnlikeWidths() {
        posts(3);
        for (int post = 0; post < 3; post++) {
            x.sheet(post, post, 11);
        }
        for (int one = 0; one < 3; one++) {
            for (int other = 0; other < 3; other++) {
                is("copy(" + one + ", " + other + ", 0)", x.copy(one, other, 0), one == other ? 0 : NO);
            }
        }
    }

    @Sentence(of = "Promise 6", says = "INDEX: many is below 0,")
    void copyOfLessThanNoPlaces() {
        sheets(2, 1, 11);
        for (int many : new int[] {-1, -11, MIN}) {
            is("copy(0, 1, " + many + ")", x.copy(0, 1, many), INDEX);
        }
    }

    @Sentence(of = "Promise 6", says = "or one has not so many.")
    void copyOfMoreThanOneHas() {
        posts(2);
        x.sheet(0, 1, 6);
        x.sheet(1, 1, 4);
        is("copy(0, 1, 4)", x.copy(0, 1, 4), 4);
        is("copy(1, 0, 4)", x.copy(1, 0, 4), 4);
        is("copy(0, 1, 5): the second has not", x.copy(0, 1, 5), INDEX);
        is("copy(1, 0, 5): the first has not", x.copy(1, 0, 5), INDEX);
        is("copy(0, 1, 7): none has", x.copy(0, 1, 7), INDEX);
        is("copy(0, 1, MAX)", x.copy(0, 1, MAX), INDEX);
    }

    @Sentence(of = "Promise 6", says = "or one has not so many.")
    void copyOfMoreThanAFullSheetHas() {
        sheets(2, 1, 11);
        is("copy(0, 1, 12)", x.copy(0, 1, 12), INDEX);
        is("copy(1, 1, 12)", x.copy(1, 1, 12), INDEX);
    }

    @Sentence(of = "Promise 6", says = "(From a POST's to another's, or its own.)")
    void copyToItsOwn() {
        sheets(3, 1, 11);
        x.weigh(1, 0, 4);
        x.weigh(1, 2, 6);
        is("copy(1, 1, 11)", x.copy(1, 1, 11), 11);
        is("road(1, 0)", x.road(1, 0), 4);
        is("road(1, 2)", x.road(1, 2), 6);
    }

    @Sentence(of = "Promise 6", says = "(From a POST's to another's, or its own.)")
    void copyGoesFromTheFirstToTheSecond() {
        sheets(3, 1, 11);
        x.weigh(0, 2, 6);
        x.copy(0, 1, 11);
        is("road(1, 2): copied", x.road(1, 2), 6);
        is("road(0, 2): stays", x.road(0, 2), 6);
    }

    @Sentence(of = "Promise 6", says = "BAD: posts; NOTHING: one is MISSING; NO: unlike WIDTHS; INDEX: many is below 0, or one has not so many.")
    void copyRefusesInItsOrder() {
        posts(3);
        x.sheet(0, 0, 2);
        x.sheet(1, 1, 2);
        is("no post, a missing one", x.copy(3, 2, -1), BAD);
        is("a missing one, no post", x.copy(2, 3, -1), BAD);
        is("a missing one, below 0", x.copy(0, 2, -1), NOTHING);
        is("a missing one, too many", x.copy(2, 0, 3), NOTHING);
        is("unlike widths, below 0", x.copy(0, 1, -1), NO);
        is("unlike widths, too many", x.copy(1, 0, 3), NO);
    }

    // ---- 7: pair

    @Sentence(of = "Promise 7", says = "One POST must stand AHEAD of another one")
    void pairBindsTheFirstAhead() {
        posts(2);
        is("pair(1, 0)", x.pair(1, 0), 1);
        is("many(3)", x.many(3), 1);
        x.best(3, 0);
        inHand("the one row", 1, 0);
    }

    @Sentence(of = "Promise 7", says = "(also if that is so already): how many PAIRS there are.")
    void pairThatIsOneAlready() {
        posts(2);
        is("pair(0, 1)", x.pair(0, 1), 1);
        is("pair(0, 1) again", x.pair(0, 1), 1);
        is("count(2)", x.count(2), 1);
        is("count(7): it is a change", x.count(7), 4);
        is("part(0, 1)", x.part(0, 1), 0);
        is("part(0, 1): it was one pair", x.part(0, 1), NO);
    }

    @Sentence(of = "Promise 7", says = "(also if that is so already): how many PAIRS there are.")
    void pairThatIsSoByOthersAlready() {
        posts(3);
        x.pair(0, 1);
        x.pair(1, 2);
        is("pair(0, 2)", x.pair(0, 2), 3);
        is("count(2)", x.count(2), 3);
    }

    @Sentence(of = "Promise 7", says = "BAD: posts,")
    void pairOfNoPost() {
        is("pair(0, 1) of a net without posts", x.pair(0, 1), BAD);
        posts(3);
        for (int post : outside(3)) {
            is("pair(" + post + ", 0)", x.pair(post, 0), BAD);
            is("pair(0, " + post + ")", x.pair(0, post), BAD);
        }
        is("count(2)", x.count(2), 0);
    }

    @Sentence(of = "Promise 7", says = "the same one")
    void pairOfTheSameOne() {
        posts(11);
        for (int post = 0; post < 11; post++) {
            is("pair(" + post + ", " + post + ")", x.pair(post, post), BAD);
        }
        is("count(2)", x.count(2), 0);
    }

    @Sentence(of = "Promise 7", says = "NO: they would lead round")
    void pairThatLeadsStraightBack() {
        posts(2);
        x.pair(0, 1);
        is("pair(1, 0)", x.pair(1, 0), NO);
        is("count(2)", x.count(2), 1);
    }

    @Sentence(of = "Promise 7", says = "NO: they would lead round")
    void pairThatLeadsRoundByAllPosts() {
        posts(11);
        for (int post = 0; post < 10; post++) {
            x.pair(post, post + 1);
        }
        is("pair(10, 0)", x.pair(10, 0), NO);
        is("pair(10, 9)", x.pair(10, 9), NO);
        is("pair(1, 0)", x.pair(1, 0), NO);
        is("pair(0, 10): that way it is free", x.pair(0, 10), 11);
    }

    @Sentence(of = "Promise 7", says = "NO: they would lead round")
    void pairThatLeadsRoundAgainstTheNumbers() {
        posts(11);
        for (int post = 10; post > 0; post--) {
            x.pair(post, post - 1);
        }
        is("pair(0, 10)", x.pair(0, 10), NO);
        is("pair(10, 0): that way it is free", x.pair(10, 0), 11);
    }

    @Sentence(of = "Promise 7", says = "NO: they would lead round")
    void pairThatLeadsRoundByTheFirstPost() {
        posts(3);
        x.pair(1, 0);
        x.pair(0, 2);
        is("pair(2, 1)", x.pair(2, 1), NO);
    }

    @Sentence(of = "Promise 7", says = "NO: they would lead round")
    void pairThatLeadsNoMoreRound() {
        posts(3);
        x.pair(0, 1);
        x.pair(1, 2);
        is("pair(2, 0)", x.pair(2, 0), NO);
        x.part(1, 2);
        is("pair(2, 0) without the one between", x.pair(2, 0), 2);
    }

    @Sentence(of = "Promise 7", says = "FULL: 30 PAIRS")
    void thirtyFirstPairIsRefused() {
        posts(9);
        is("made", pairs(9, 29), 29);
        is("pair(5, 8): the 30th", x.pair(5, 8), 30);
        is("pair(7, 8): the 31st", x.pair(7, 8), FULL);
        is("count(2)", x.count(2), 30);
        x.part(0, 1);
        is("pair(7, 8) with one less", x.pair(7, 8), 30);
    }

    @Sentence(of = "Promise 7", says = "(also if that is one)")
    void pairOfAFullNetThatIsOne() {
        posts(9);
        is("made", pairs(9, 29), 29);
        is("pair(0, 1) with 29", x.pair(0, 1), 29);
        x.pair(7, 8);
        is("pair(0, 1) with 30", x.pair(0, 1), FULL);
        is("pair(7, 8) with 30", x.pair(7, 8), FULL);
    }

    @Sentence(of = "Promise 7", says = "BAD: posts, the same one; NO: they would lead round; FULL: 30 PAIRS (also if that is one).")
    void pairRefusesInItsOrder() {
        posts(9);
        is("made", pairs(9, 30), 30);
        is("pair(9, 0) of a full net", x.pair(9, 0), BAD);
        is("pair(8, 8) of a full net", x.pair(8, 8), BAD);
        is("pair(1, 0) of a full net", x.pair(1, 0), NO);
    }

    // ---- 8: part

    @Sentence(of = "Promise 8", says = "That PAIR is no more: how many there are.")
    void partOfTheLastPair() {
        posts(3);
        x.pair(0, 1);
        x.pair(0, 2);
        is("part(0, 1)", x.part(0, 1), 1);
        is("part(0, 2)", x.part(0, 2), 0);
        is("count(2)", x.count(2), 0);
        is("many(3): all rows are lawful", x.many(3), 6);
    }

    @Sentence(of = "Promise 8", says = "BAD")
    void partOfNoPost() {
        is("part(0, 1) of a net without posts", x.part(0, 1), BAD);
        posts(3);
        x.pair(0, 1);
        for (int post : outside(3)) {
            is("part(" + post + ", 1)", x.part(post, 1), BAD);
            is("part(0, " + post + ")", x.part(0, post), BAD);
        }
        is("count(2)", x.count(2), 1);
    }

    @Sentence(of = "Promise 8", says = "BAD")
    void partOfTheSameOne() {
        posts(11);
        for (int post = 0; post < 11; post++) {
            is("part(" + post + ", " + post + ")", x.part(post, post), BAD);
        }
    }

    @Sentence(of = "Promise 8", says = "NO: there is no such PAIR.")
    void partOfNoPair() {
        posts(3);
        is("part(0, 1) where there are none", x.part(0, 1), NO);
        x.pair(0, 1);
        x.pair(1, 2);
        is("part(1, 0): the other way round", x.part(1, 0), NO);
        is("part(0, 2): by others alone", x.part(0, 2), NO);
        x.part(0, 1);
        is("part(0, 1) again", x.part(0, 1), NO);
        is("count(2)", x.count(2), 1);
    }

    // ---- 9: road

    @Sentence(of = "Promise 9", says = "The weight of THE ROAD between two POSTS")
    void roadOfTheMostAndTheLeast() {
        sheets(11, 2, 11);
        x.weigh(9, 10, 1000);
        x.weigh(10, 9, 1000);
        x.weigh(0, 10, 1);
        is("road(9, 10)", x.road(9, 10), 2000);
        is("road(10, 9)", x.road(10, 9), 2000);
        is("road(0, 10)", x.road(0, 10), 1);
        is("road(10, 0)", x.road(10, 0), 1);
    }

    @Sentence(of = "Promise 9", says = "(0: there is none)")
    void roadThatThereIsNot() {
        posts(2);
        is("road(0, 1) of missing sheets", x.road(0, 1), 0);
        x.sheet(0, 1, 11);
        is("road(0, 1) of an empty sheet", x.road(0, 1), 0);
        x.weigh(0, 1, 4);
        x.weigh(0, 1, 0);
        is("road(0, 1) weighed 0", x.road(0, 1), 0);
    }

    @Sentence(of = "Promise 9", says = "BAD:")
    void roadOfNoPost() {
        is("road(0, 1) of a net without posts", x.road(0, 1), BAD);
        sheets(3, 1, 11);
        x.weigh(0, 3, 5);
        for (int post : outside(3)) {
            is("road(" + post + ", 0)", x.road(post, 0), BAD);
            is("road(0, " + post + ")", x.road(0, post), BAD);
        }
    }

    @Sentence(of = "Promise 9", says = "also the same one.")
    void roadToTheSameOne() {
        sheets(11, 1, 11);
        for (int post = 0; post < 11; post++) {
            x.weigh(post, post, 5);
            is("road(" + post + ", " + post + ")", x.road(post, post), BAD);
        }
    }

    // ---- 10: about

    @Sentence(of = "Promise 10", says = "Of a POST: what 0 the WIDTH of its SHEET (NONE: MISSING),")
    void aboutTheWidth() {
        posts(2);
        is("about(0, 0) of a new post", x.about(0, 0), NONE);
        for (int width = 0; width <= 2; width++) {
            x.sheet(0, width, 0);
            is("about(0, 0)", x.about(0, 0), width);
        }
        is("about(1, 0) of another", x.about(1, 0), NONE);
        x.lose(0);
        is("about(0, 0) of a lost sheet", x.about(0, 0), NONE);
    }

    @Sentence(of = "Promise 10", says = "1 how many places that has (0),")
    void aboutThePlaces() {
        posts(2);
        is("about(0, 1) of a new post", x.about(0, 1), 0);
        x.sheet(0, 0, 11);
        is("about(0, 1) of 11", x.about(0, 1), 11);
        x.sheet(0, 0, 0);
        is("about(0, 1) of none", x.about(0, 1), 0);
        x.sheet(0, 0, 1);
        x.lose(0);
        is("about(0, 1) of a lost sheet", x.about(0, 1), 0);
    }

    @Sentence(of = "Promise 10", says = "2 how many ROADS,")
    void aboutTheRoads() {
        sheets(11, 1, 11);
        is("about(10, 2) of none", x.about(10, 2), 0);
        for (int other = 0; other < 10; other++) {
            x.weigh(10, other, 1);
        }
        x.weigh(0, 10, 1);
        x.weigh(10, 10, 1);
        is("about(10, 2) of all", x.about(10, 2), 10);
        is("about(0, 2): both sheets tell of one", x.about(0, 2), 1);
        is("about(9, 2): the other sheet tells", x.about(9, 2), 1);
    }

    @Sentence(of = "Promise 10", says = "3 their weight,")
    void aboutTheWeight() {
        sheets(11, 2, 11);
        is("about(0, 3) of none", x.about(0, 3), 0);
        for (int other = 0; other < 11; other++) {
            x.weigh(0, other, 1000);
            x.weigh(other, 0, 1000);
        }
        is("about(0, 3) of all, but for itself", x.about(0, 3), 20000);
        is("about(10, 3)", x.about(10, 3), 2000);
    }

    @Sentence(of = "Promise 10", says = "4 how many POSTS must stand behind it by PAIRS, straight or by others.")
    void aboutThoseBehind() {
        posts(11);
        is("about(0, 4) of none", x.about(0, 4), 0);
        for (int post = 0; post < 10; post++) {
            x.pair(post, post + 1);
        }
        x.pair(0, 10);
        is("about(0, 4) of all, each once", x.about(0, 4), 10);
        is("about(9, 4)", x.about(9, 4), 1);
        is("about(10, 4) of the last", x.about(10, 4), 0);
    }

    @Sentence(of = "Promise 10", says = "4 how many POSTS must stand behind it by PAIRS, straight or by others.")
    void aboutThoseBehindByTheFirstAndTheLastPost() {
        posts(11);
        x.pair(5, 0);
        x.pair(0, 10);
        x.pair(10, 3);
        is("about(5, 4)", x.about(5, 4), 3);
        is("about(0, 4)", x.about(0, 4), 2);
        is("about(10, 4)", x.about(10, 4), 1);
        is("about(3, 4)", x.about(3, 4), 0);
    }

    @Sentence(of = "Promise 10", says = "BAD.")
    void aboutNoPost() {
        is("about(0, 0) of a net without posts", x.about(0, 0), BAD);
        posts(3);
        for (int post : outside(3)) {
            is("about(" + post + ", 0)", x.about(post, 0), BAD);
            is("about(" + post + ", 4)", x.about(post, 4), BAD);
        }
    }

    @Sentence(of = "Promise 10", says = "BAD.")
    void aboutNothingThatCanBeAsked() {
        sheets(3, 1, 11);
        for (int what : outside(5)) {
            is("about(0, " + what + ")", x.about(0, what), BAD);
        }
    }

    // ---- 34: undo

    @Sentence(of = "Promise 34", says = "The latest change that is kept is taken back: how many are kept still.")
    void undoOfTheLatestFirst() {
        sheets(1, 1, 1);
        x.weigh(0, 0, 5);
        x.weigh(0, 0, 6);
        is("undo() of 6", x.undo(), 3);
        is("it was 5", x.weigh(0, 0, 7), 5);
        is("undo() of 7", x.undo(), 3);
        is("undo() of 5", x.undo(), 2);
        is("undo() of the sheet", x.undo(), 1);
        is("about(0, 0)", x.about(0, 0), NONE);
        is("undo() of the post", x.undo(), 0);
        is("count(0)", x.count(0), 0);
    }

    @Sentence(of = "Promise 34", says = "The latest change that is kept is taken back: how many are kept still.")
    void undoOfEightAndNoMore() {
        posts(11);
        for (int kept = 7; kept >= 0; kept--) {
            is("undo()", x.undo(), kept);
        }
        is("undo() of the ninth", x.undo(), NO);
        is("count(0)", x.count(0), 3);
    }

    @Sentence(of = "Promise 34", says = "The latest change that is kept is taken back: how many are kept still.")
    void undoOfWhatIsDoneToTheLastPost() {
        posts(11);
        x.sheet(10, 2, 11);
        x.weigh(10, 10, 5);
        x.pair(10, 9);
        is("undo(): pair", x.undo(), 7);
        is("about(10, 4)", x.about(10, 4), 0);
        x.weigh(10, 10, 6);
        is("undo(): weigh", x.undo(), 7);
        is("weigh(10, 10, 5)", x.weigh(10, 10, 5), 5);
        x.lose(10);
        is("undo(): lose", x.undo(), 7);
        is("about(10, 0)", x.about(10, 0), 2);
        is("about(10, 1)", x.about(10, 1), 11);
        is("weigh(10, 10, 5)", x.weigh(10, 10, 5), 5);
    }

    @Sentence(of = "Promise 34", says = "The latest change that is kept is taken back: how many are kept still.")
    void undoAfterAnyNumberOfChanges() {
        sheets(1, 1, 1);
        int weight = 0;
        for (int changes = 8; changes <= 18; changes++) {
            for (int i = 0; i < changes; i++) {
                weight++;
                x.weigh(0, 0, weight);
            }
            for (int kept = 7; kept >= 0; kept--) {
                is(changes + " changes: undo()", x.undo(), kept);
            }
            is(changes + " changes: undo() of no more", x.undo(), NO);
            is(changes + " changes: what was there ahead of 8", x.weigh(0, 0, weight), weight - 8);
        }
    }

    @Sentence(of = "Promise 34", says = "NO: none.")
    void undoOfNothing() {
        is("undo() of a new object", x.undo(), NO);
        is("count(7)", x.count(7), 0);
        x.post();
        x.undo();
        is("undo() of nothing more", x.undo(), NO);
        is("count(0)", x.count(0), 0);
        is("post() then", x.post(), 0);
        is("undo() then", x.undo(), 0);
    }
}
