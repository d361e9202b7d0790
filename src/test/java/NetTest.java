/** Promises 1 to 10 and 34: the net, its changes, and how they are taken back. */
public final class NetTest {
    private static final int NONE = -1, BAD = -3, NO = -4, FULL = -5, NOTHING = -11, INDEX = -13, SIZE = -14;
    private static final int MIN = Integer.MIN_VALUE;
    private static final int MAX = Integer.MAX_VALUE;

    private static final Due due = new Due("NetTest");

    public static void main(String[] args) {
        newObject();
        posts();
        sheets();
        sheetsLost();
        weights();
        copies();
        pairs();
        pairsFull();
        parts();
        roads();
        aboutPosts();
        undone();
        undoneOfEachKind();
        undoLeavesTheRest();
        lastPost();
        due.ending();
    }

    private static NarrowRows with(int posts) {
        NarrowRows x = new NarrowRows();
        for (int i = 0; i < posts; i++) {
            x.post();
        }
        return x;
    }

    /** Promise 1. */
    private static void newObject() {
        NarrowRows x = new NarrowRows();
        for (int what = 0; what <= 8; what++) {
            due.is("new: count(" + what + ")", x.count(what), 0);
        }
        due.is("new: at(0)", x.at(0), BAD);
        due.is("new: road(0, 1)", x.road(0, 1), BAD);
        due.is("new: about(0, 0)", x.about(0, 0), BAD);
        due.is("new: undo()", x.undo(), NO);
        due.is("new: lawful()", x.lawful(), 1);
        due.is("new: good()", x.good(), 0);
        for (int cost = 0; cost <= 5; cost++) {
            due.is("new: cost(" + cost + ")", x.cost(cost), 0);
            due.is("new: least(" + cost + ")", x.least(cost), 0);
            due.is("new: many(" + cost + ")", x.many(cost), 1);
            due.is("new: number(" + cost + ")", x.number(cost), 0);
            due.is("new: best(" + cost + ", 0)", x.best(cost, 0), 0);
            due.is("new: best(" + cost + ", 1)", x.best(cost, 1), NONE);
            due.is("new: better(" + cost + ", 1)", x.better(cost, 1), 0);
        }
        due.is("new: where(0)", x.where(0), NONE);
        due.is("new: where(1)", x.where(1), NONE);
        due.is("new: where(5)", x.where(5), NONE);
        due.is("new: bag(0)", x.bag(0), BAD);
        due.is("new: wall(1, 0)", x.wall(1, 0), BAD);
        due.is("new: wall(1, 1)", x.wall(1, 1), BAD);
        due.is("new: lay(1)", x.lay(1), BAD);
        due.is("new: lay(0)", x.lay(0), 1);
        due.is("new: rowOf()", x.rowOf(), 0);
        due.is("new: begin()", x.begin(), 0);
        due.is("new: calm()", x.calm(), 0);
    }

    /** Promise 2. */
    private static void posts() {
        NarrowRows x = new NarrowRows();
        for (int i = 0; i < 11; i++) {
            due.is("post() no. " + i, x.post(), i);
            due.is("count(0)", x.count(0), i + 1);
        }
        due.is("post() of a full net", x.post(), FULL);
        due.is("count(0) of a full net", x.count(0), 11);
        due.is("count(7): eight are kept", x.count(7), 8);
        due.is("undo() of a post", x.undo(), 7);
        due.is("post() again", x.post(), 10);
    }

    /** Promise 3. */
    private static void sheets() {
        NarrowRows x = new NarrowRows();
        due.is("sheet of no post", x.sheet(0, 0, 0), BAD);
        x.post();
        x.post();
        due.is("sheet(-1, 0, 1)", x.sheet(-1, 0, 1), BAD);
        due.is("sheet(2, 0, 1)", x.sheet(2, 0, 1), BAD);
        due.is("sheet(0, -1, 1)", x.sheet(0, -1, 1), BAD);
        due.is("sheet(0, 3, 1)", x.sheet(0, 3, 1), BAD);
        due.is("sheet(0, 0, 12)", x.sheet(0, 0, 12), BAD);
        due.is("sheet(0, 0, MAX)", x.sheet(0, 0, MAX), BAD);
        due.is("sheet(0, 0, -1)", x.sheet(0, 0, -1), SIZE);
        due.is("sheet(0, 0, MIN)", x.sheet(0, 0, MIN), SIZE);
        due.is("sheet(0, 3, -1): BAD is first", x.sheet(0, 3, -1), BAD);
        due.is("sheet(2, 0, -1): BAD is first", x.sheet(2, 0, -1), BAD);
        due.is("refused sheets are no changes", x.count(7), 2);
        due.is("refused sheets are not there", x.count(3), 0);
        due.is("sheet(0, 0, 0)", x.sheet(0, 0, 0), 0);
        due.is("about(0, 0)", x.about(0, 0), 0);
        due.is("about(0, 1)", x.about(0, 1), 0);
        due.is("weigh on no places", x.weigh(0, 0, 1), INDEX);
        due.is("sheet(0, 2, 11)", x.sheet(0, 2, 11), 11);
        due.is("about(0, 0) of ints", x.about(0, 0), 2);
        due.is("about(0, 1) of 11", x.about(0, 1), 11);
        due.is("weigh(0, 1, 9)", x.weigh(0, 1, 9), 0);
        due.is("road(0, 1)", x.road(0, 1), 9);
        due.is("sheet(0, 1, 2) anew", x.sheet(0, 1, 2), 2);
        due.is("road(0, 1) of a new sheet", x.road(0, 1), 0);
        due.is("weigh(0, 1, 4) of a new sheet", x.weigh(0, 1, 4), 0);
        due.is("weigh(0, 2, 4) beyond", x.weigh(0, 2, 4), INDEX);
        due.is("count(3)", x.count(3), 1);
    }

    /** Promise 4. */
    private static void sheetsLost() {
        NarrowRows x = with(2);
        due.is("lose(-1)", x.lose(-1), BAD);
        due.is("lose(2)", x.lose(2), BAD);
        due.is("lose(0): missing", x.lose(0), NOTHING);
        x.sheet(0, 1, 2);
        x.sheet(1, 1, 2);
        x.weigh(0, 1, 3);
        x.weigh(1, 0, 4);
        due.is("both sheets tell", x.road(1, 0), 7);
        due.is("lose(0)", x.lose(0), 0);
        due.is("the other sheet tells still", x.road(0, 1), 4);
        due.is("about(0, 0)", x.about(0, 0), NONE);
        due.is("about(0, 1)", x.about(0, 1), 0);
        due.is("count(3)", x.count(3), 1);
        due.is("lose(0) again", x.lose(0), NOTHING);
        due.is("count(7)", x.count(7), 7);
        due.is("lose(1)", x.lose(1), 0);
        due.is("no road is left", x.road(0, 1), 0);
        due.is("count(1)", x.count(1), 0);
    }

    /** Promise 5. */
    private static void weights() {
        NarrowRows x = with(3);
        due.is("weigh(3, 0, 1)", x.weigh(3, 0, 1), BAD);
        due.is("weigh(-1, 0, 1)", x.weigh(-1, 0, 1), BAD);
        due.is("weigh of a missing sheet", x.weigh(0, 99, -7), NOTHING);
        for (int width = 0; width <= 2; width++) {
            int most = width == 0 ? 127 : 1000;
            x.sheet(0, width, 3);
            due.is("weigh most, width " + width, x.weigh(0, 1, most), 0);
            due.is("weigh above, width " + width, x.weigh(0, 1, most + 1), BAD);
            due.is("weigh below 0, width " + width, x.weigh(0, 1, -1), BAD);
            due.is("weigh MIN, width " + width, x.weigh(0, 1, MIN), BAD);
            due.is("weigh MAX, width " + width, x.weigh(0, 1, MAX), BAD);
            due.is("weigh 0, width " + width, x.weigh(0, 1, 0), most);
            due.is("weigh 5, width " + width, x.weigh(0, 1, 5), 0);
            due.is("weigh 6, width " + width, x.weigh(0, 1, 6), 5);
            due.is("road, width " + width, x.road(0, 1), 6);
        }
        due.is("weigh(0, 3, 1)", x.weigh(0, 3, 1), INDEX);
        due.is("weigh(0, -1, 1)", x.weigh(0, -1, 1), INDEX);
        due.is("weigh(0, MIN, 1)", x.weigh(0, MIN, 1), INDEX);
        due.is("weigh(0, MAX, 1)", x.weigh(0, MAX, 1), INDEX);
        due.is("INDEX is ahead of the weight's BAD", x.weigh(0, 3, 1001), INDEX);
        due.is("weigh of itself", x.weigh(0, 0, 50), 0);
        due.is("which counts for nothing", x.about(0, 3), 6);
        due.is("and is no road", x.about(0, 2), 1);
        due.is("but is held", x.weigh(0, 0, 0), 50);
    }

    /** Promise 6. */
    private static void copies() {
        NarrowRows x = with(4);
        x.sheet(0, 1, 4);
        x.sheet(1, 1, 3);
        x.sheet(2, 2, 4);
        x.weigh(0, 2, 7);
        x.weigh(0, 3, 8);
        x.weigh(1, 0, 5);
        due.is("copy(4, 0, 1)", x.copy(4, 0, 1), BAD);
        due.is("copy(0, 4, 1)", x.copy(0, 4, 1), BAD);
        due.is("copy(-1, 0, 1)", x.copy(-1, 0, 1), BAD);
        due.is("copy(3, 0, -1)", x.copy(3, 0, -1), NOTHING);
        due.is("copy(0, 3, 99)", x.copy(0, 3, 99), NOTHING);
        due.is("copy(3, 3, 0)", x.copy(3, 3, 0), NOTHING);
        due.is("copy(0, 2, -1): NO is first", x.copy(0, 2, -1), NO);
        due.is("copy(2, 0, 99): NO is first", x.copy(2, 0, 99), NO);
        due.is("copy(0, 1, -1)", x.copy(0, 1, -1), INDEX);
        due.is("copy(0, 1, MIN)", x.copy(0, 1, MIN), INDEX);
        due.is("copy(0, 1, 4): the one has not so many", x.copy(0, 1, 4), INDEX);
        due.is("copy(1, 0, 4): the other has not", x.copy(1, 0, 4), INDEX);
        due.is("copy(0, 1, MAX)", x.copy(0, 1, MAX), INDEX);
        due.is("nothing came of these", x.road(0, 1), 5);
        due.is("copy(0, 1, 2)", x.copy(0, 1, 2), 2);
        due.is("place 0 is copied", x.road(0, 1), 0);
        due.is("place 2 is not", x.road(1, 2), 0);
        due.is("copy(0, 1, 3)", x.copy(0, 1, 3), 3);
        due.is("place 2 is copied", x.road(1, 2), 7);
        due.is("the first sheet stays", x.road(0, 2), 7);
        due.is("beyond what was copied", x.road(1, 3), 0);
        due.is("copy(1, 1, 3)", x.copy(1, 1, 3), 3);
        due.is("its own changes nothing", x.road(1, 2), 7);
        due.is("undo() of that", x.undo(), 7);
        due.is("copy(1, 0, 0)", x.copy(1, 0, 0), 0);
        due.is("is a change", x.count(7), 8);
        due.is("copy(1, 0, 3)", x.copy(1, 0, 3), 3);
        due.is("the place behind stays", x.road(0, 3), 8);
    }

    /** Promise 7. */
    private static void pairs() {
        NarrowRows x = with(4);
        due.is("pair(0, 0)", x.pair(0, 0), BAD);
        due.is("pair(4, 0)", x.pair(4, 0), BAD);
        due.is("pair(0, 4)", x.pair(0, 4), BAD);
        due.is("pair(-1, 0)", x.pair(-1, 0), BAD);
        due.is("pair(MIN, MAX)", x.pair(MIN, MAX), BAD);
        due.is("pair(2, 1)", x.pair(2, 1), 1);
        due.is("pair(1, 2) leads round", x.pair(1, 2), NO);
        due.is("pair(1, 0)", x.pair(1, 0), 2);
        due.is("pair(0, 3)", x.pair(0, 3), 3);
        due.is("pair(3, 2) leads round by others", x.pair(3, 2), NO);
        due.is("pair(0, 2) leads round by others", x.pair(0, 2), NO);
        due.is("refused pairs are no changes", x.count(7), 7);
        due.is("pair(2, 3) straight too", x.pair(2, 3), 4);
        due.is("pair(2, 3) once more", x.pair(2, 3), 4);
        due.is("count(2)", x.count(2), 4);
        due.is("undo() of the pair that was so already", x.undo(), 7);
        due.is("leaves it", x.count(2), 4);
        due.is("undo() of the pair", x.undo(), 6);
        due.is("does not", x.count(2), 3);
        due.is("one row is lawful", x.many(3), 1);
        due.is("best(3, 0)", x.best(3, 0), 4);
        due.is("at(0)", x.at(0), 2);
        due.is("at(1)", x.at(1), 1);
        due.is("at(2)", x.at(2), 0);
        due.is("at(3)", x.at(3), 3);
    }

    private static void pairsFull() {
        NarrowRows x = with(9);
        int made = 0;
        for (int one = 0; one < 9 && made < 30; one++) {
            for (int other = one + 1; other < 9 && made < 30; other++) {
                made++;
                due.is("pair no. " + made, x.pair(one, other), made);
            }
        }
        due.is("count(2)", x.count(2), 30);
        due.is("pair(7, 8): a new one", x.pair(7, 8), FULL);
        due.is("pair(0, 1): also if it is one", x.pair(0, 1), FULL);
        due.is("pair(1, 0): NO is first", x.pair(1, 0), NO);
        due.is("pair(1, 1): BAD is first", x.pair(1, 1), BAD);
        due.is("count(2) is still", x.count(2), 30);
        due.is("part(0, 1)", x.part(0, 1), 29);
        due.is("pair(7, 8) then", x.pair(7, 8), 30);
        due.is("about(0, 4)", x.about(0, 4), 7);
    }

    /** Promise 8. */
    private static void parts() {
        NarrowRows x = with(3);
        x.pair(0, 1);
        x.pair(1, 2);
        due.is("part(3, 0)", x.part(3, 0), BAD);
        due.is("part(0, 3)", x.part(0, 3), BAD);
        due.is("part(-1, 0)", x.part(-1, 0), BAD);
        due.is("part(MIN, MAX)", x.part(MIN, MAX), BAD);
        for (int post = 0; post < 4; post++) {
            due.is("part(" + post + ", " + post + "): the same one", x.part(post, post), BAD);
        }
        due.is("refused parts take no pair", x.count(2), 2);
        due.is("refused parts are no changes", x.count(7), 5);
        due.is("part(1, 0): the other way round", x.part(1, 0), NO);
        due.is("part(0, 2): only by others", x.part(0, 2), NO);
        due.is("part(0, 1)", x.part(0, 1), 1);
        due.is("part(0, 1) again", x.part(0, 1), NO);
        due.is("part(0, 0): BAD where there is no pair of it", x.part(0, 0), BAD);
        due.is("about(0, 4)", x.about(0, 4), 0);
        due.is("about(1, 4)", x.about(1, 4), 1);
        due.is("pair(2, 0) does not lead round now", x.pair(2, 0), 2);
        due.is("about(1, 4) then", x.about(1, 4), 2);
        due.is("count(7)", x.count(7), 7);
    }

    /** Promise 9. */
    private static void roads() {
        NarrowRows x = with(3);
        due.is("road(0, 0)", x.road(0, 0), BAD);
        due.is("road(0, 3)", x.road(0, 3), BAD);
        due.is("road(3, 0)", x.road(3, 0), BAD);
        due.is("road(-1, 0)", x.road(-1, 0), BAD);
        due.is("road(0, MAX)", x.road(0, MAX), BAD);
        due.is("road(0, 1): none", x.road(0, 1), 0);
        x.sheet(0, 2, 11);
        x.sheet(1, 1, 11);
        x.weigh(0, 1, 1000);
        x.weigh(1, 0, 1000);
        x.weigh(0, 3, 12);
        due.is("road(0, 1) of both sheets", x.road(0, 1), 2000);
        due.is("road(1, 0)", x.road(1, 0), 2000);
        due.is("count(1)", x.count(1), 1);
        due.is("count(8)", x.count(8), 2000);
        due.is("what is told of no post", x.about(0, 3), 2000);
        due.is("post()", x.post(), 3);
        due.is("counts when the post comes", x.road(3, 0), 12);
        due.is("count(1) then", x.count(1), 2);
        due.is("count(8) then", x.count(8), 2012);
    }

    /** Promise 10. */
    private static void aboutPosts() {
        NarrowRows x = with(5);
        for (int what = -2; what < 8; what++) {
            due.is("about(5, " + what + ")", x.about(5, what), BAD);
            due.is("about(-1, " + what + ")", x.about(-1, what), BAD);
        }
        due.is("about(0, -1)", x.about(0, -1), BAD);
        due.is("about(0, 5)", x.about(0, 5), BAD);
        due.is("about(0, 0): missing", x.about(0, 0), NONE);
        due.is("about(0, 1): missing", x.about(0, 1), 0);
        x.sheet(0, 1, 5);
        x.sheet(3, 2, 4);
        x.weigh(0, 3, 4);
        x.weigh(0, 4, 2);
        x.weigh(3, 0, 10);
        x.weigh(3, 1, 6);
        due.is("about(0, 0)", x.about(0, 0), 1);
        due.is("about(0, 1)", x.about(0, 1), 5);
        due.is("about(0, 2)", x.about(0, 2), 2);
        due.is("about(0, 3)", x.about(0, 3), 16);
        due.is("about(3, 0)", x.about(3, 0), 2);
        due.is("about(3, 1)", x.about(3, 1), 4);
        due.is("about(3, 2)", x.about(3, 2), 2);
        due.is("about(3, 3)", x.about(3, 3), 20);
        due.is("about(1, 2): by the other's sheet", x.about(1, 2), 1);
        due.is("about(1, 3)", x.about(1, 3), 6);
        due.is("about(2, 2)", x.about(2, 2), 0);
        x.pair(4, 3);
        x.pair(3, 2);
        x.pair(2, 1);
        x.pair(4, 1);
        due.is("about(4, 4)", x.about(4, 4), 3);
        due.is("about(3, 4)", x.about(3, 4), 2);
        due.is("about(2, 4)", x.about(2, 4), 1);
        due.is("about(1, 4)", x.about(1, 4), 0);
        due.is("about(0, 4)", x.about(0, 4), 0);
    }

    /** Promise 34: eight are kept, the latest goes first. */
    private static void undone() {
        NarrowRows x = with(1);
        x.sheet(0, 1, 1);
        for (int i = 1; i <= 20; i++) {
            x.weigh(0, 0, i);
        }
        due.is("count(7)", x.count(7), 8);
        for (int i = 7; i >= 0; i--) {
            due.is("undo() to " + i, x.undo(), i);
        }
        due.is("undo() of none", x.undo(), NO);
        due.is("the ninth is not taken back", x.weigh(0, 0, 0), 12);
        due.is("count(7) then", x.count(7), 1);
        due.is("undo()", x.undo(), 0);
        due.is("what it was", x.weigh(0, 0, 3), 12);
        x.weigh(0, 0, 4);
        due.is("undo() of 4", x.undo(), 1);
        x.weigh(0, 0, 5);
        due.is("undo() of 5", x.undo(), 1);
        due.is("undo() of 3", x.undo(), 0);
        due.is("and 12 again", x.weigh(0, 0, 1), 12);
    }

    private static void undoneOfEachKind() {
        NarrowRows x = with(3);
        x.sheet(0, 0, 3);
        x.sheet(1, 0, 3);
        x.weigh(0, 1, 11);
        x.weigh(0, 2, 22);
        x.copy(0, 1, 3);
        due.is("road(1, 2) copied", x.road(1, 2), 22);
        x.undo();
        due.is("copy undone", x.road(1, 2), 0);
        x.lose(0);
        x.undo();
        due.is("lose undone", x.road(0, 2), 22);
        due.is("with the width", x.about(0, 0), 0);
        due.is("with the places", x.about(0, 1), 3);
        x.sheet(0, 2, 1);
        x.undo();
        due.is("sheet undone", x.road(0, 1), 11);
        due.is("with its width", x.about(0, 0), 0);
        x.weigh(0, 1, 0);
        x.undo();
        due.is("weigh undone", x.road(0, 1), 11);
        x.pair(0, 1);
        x.undo();
        due.is("pair undone", x.count(2), 0);
        due.is("pair undone: free again", x.pair(1, 0), 1);
        x.part(1, 0);
        x.undo();
        due.is("part undone", x.count(2), 1);
        due.is("part undone: bound again", x.pair(0, 1), NO);
        x.post();
        due.is("count(0)", x.count(0), 4);
        x.undo();
        due.is("post undone", x.count(0), 3);
        due.is("it is none any more", x.sheet(3, 0, 1), BAD);
        due.is("the answers go with it: row 1, 0, 2", x.least(3), 33);
    }

    /** In hand, the bags and the hunt stay as they are. */
    private static void undoLeavesTheRest() {
        NarrowRows x = with(3);
        x.put(2);
        x.put(0);
        x.put(1);
        x.lay(7);
        x.hunt(2);
        due.is("undo()", x.undo(), 2);
        due.is("count(4)", x.count(4), 3);
        due.is("at(0): as it was put", x.at(0), 2);
        due.is("count(5)", x.count(5), 1);
        due.is("count(6)", x.count(6), 1);
        due.is("cost(1): one in hand is none", x.cost(1), NO);
        due.is("lawful()", x.lawful(), NO);
        due.is("good(): its bit is not looked at", x.good(), 0);
        due.is("clean(3): a post that there is not", x.clean(3), 1);
        due.is("rowOf()", x.rowOf(), 2);
        due.is("count(4)", x.count(4), 2);
        due.is("lawful() then", x.lawful(), 1);
    }

    /** Post 10 and place 10, the last there can be, with all that is done to them taken back. */
    private static void lastPost() {
        NarrowRows x = with(11);
        due.is("sheet(10, 2, 11)", x.sheet(10, 2, 11), 11);
        due.is("sheet(9, 2, 11)", x.sheet(9, 2, 11), 11);
        due.is("weigh(9, 10, 1000)", x.weigh(9, 10, 1000), 0);
        due.is("weigh(10, 9, 1000)", x.weigh(10, 9, 1000), 0);
        due.is("weigh(10, 10, 5)", x.weigh(10, 10, 5), 0);
        due.is("road(10, 9)", x.road(10, 9), 2000);
        due.is("about(10, 2)", x.about(10, 2), 1);
        due.is("about(10, 3)", x.about(10, 3), 2000);
        due.is("count(3)", x.count(3), 2);
        due.is("sheet(10, 1, 11) anew", x.sheet(10, 1, 11), 11);
        due.is("weigh(10, 10, 6) of the new one", x.weigh(10, 10, 6), 0);
        x.undo();
        due.is("undo() of the sheet", x.undo(), 6);
        due.is("weigh(10, 10, 7) of the old one", x.weigh(10, 10, 7), 5);
        due.is("weigh(10, 10, 8)", x.weigh(10, 10, 8), 7);
        due.is("undo()", x.undo(), 7);
        due.is("weigh(10, 10, 9) after it", x.weigh(10, 10, 9), 7);
        due.is("about(10, 0)", x.about(10, 0), 2);
        due.is("pair(10, 0)", x.pair(10, 0), 1);
        due.is("pair(9, 10)", x.pair(9, 10), 2);
        due.is("pair(0, 9) leads round", x.pair(0, 9), NO);
        due.is("about(9, 4)", x.about(9, 4), 2);
        x.undo();
        x.undo();
        due.is("about(9, 4) undone", x.about(9, 4), 0);
        due.is("about(10, 4) undone", x.about(10, 4), 0);
        due.is("pair(0, 10) then", x.pair(0, 10), 1);
        due.is("copy(10, 9, 11)", x.copy(10, 9, 11), 11);
        due.is("road(9, 10) of the copies", x.road(9, 10), 1009);
        due.is("lose(10)", x.lose(10), 0);
        due.is("about(10, 1)", x.about(10, 1), 0);
        due.is("road(9, 10) of one", x.road(9, 10), 9);
        x.undo();
        due.is("about(10, 1) undone", x.about(10, 1), 11);
        due.is("road(9, 10) undone", x.road(9, 10), 1009);
        long chain = 0;
        for (int i = 9; i > 0; i--) {
            chain = x.pair(i, i - 1);
        }
        due.is("a chain of all", chain, 10);
        due.is("about(9, 4): by all others", x.about(9, 4), 10);
        due.is("about(1, 4)", x.about(1, 4), 2);
        due.is("pair(10, 9) leads round by all", x.pair(10, 9), NO);
    }
}
