/** Promises 30 to 33 and 35: hunts, and what is counted. */
public final class HuntTest {
    private static final int BAD = -3, NO = -4, FULL = -5;
    private static final int MIN = Integer.MIN_VALUE;
    private static final int MAX = Integer.MAX_VALUE;

    private static final Due due = new Due("HuntTest");

    public static void main(String[] args) {
        movesOfAHunt();
        fullHunt();
        plans();
        plansOfAStar();
        plansClear();
        cleaning();
        foulAgain();
        foulUpToSearchers();
        idleMoves();
        huntsOfANewNet();
        lastPost();
        counts();
        due.ending();
    }

    private static void go(NarrowRows x, int... moves) {
        for (int move : moves) {
            x.hunt(move);
        }
    }

    private static void cleaned(String what, NarrowRows x, int... wanted) {
        for (int i = 0; i < 4; i++) {
            due.is(what + ": clean(" + i + ")", x.clean(i), wanted[i]);
        }
    }

    /** Promises 30, 31. */
    private static void movesOfAHunt() {
        NarrowRows x = new NarrowRows();
        for (int move : new int[] {-1, 11, 12, 99, 111, 200, -100, MIN, MAX}) {
            due.is("hunt(" + move + ")", x.hunt(move), BAD);
        }
        due.is("hunt(0): of a post that there is not", x.hunt(0), 1);
        due.is("hunt(10)", x.hunt(10), 2);
        due.is("hunt(100)", x.hunt(100), 3);
        due.is("hunt(110)", x.hunt(110), 4);
        due.is("count(6)", x.count(6), 4);
        due.is("clean(3)", x.clean(3), 4);
        due.is("calm()", x.calm(), 4);
        due.is("count(6) then", x.count(6), 0);
        due.is("clean(3) then", x.clean(3), 0);
        due.is("calm() again", x.calm(), 0);
        due.is("hunts are no changes", x.count(7), 0);
    }

    private static void fullHunt() {
        NarrowRows x = Nets.path(2);
        for (int i = 1; i <= 60; i++) {
            due.is("hunt no. " + i, x.hunt(i % 2 == 1 ? 0 : 100), i);
        }
        due.is("hunt no. 61", x.hunt(0), FULL);
        due.is("hunt(11): BAD is first", x.hunt(11), BAD);
        due.is("count(6)", x.count(6), 60);
        cleaned("to and fro", x, 1, 1, 0, 0);
        due.is("calm()", x.calm(), 60);
        due.is("hunt(0) then", x.hunt(0), 1);
    }

    /** Promise 32. */
    private static void plans() {
        NarrowRows x = Nets.path(3);
        go(x, 5, 105);
        Nets.hold(x, 0, 1);
        due.is("plan() of less than all", x.plan(), NO);
        due.is("the hunt stays", x.count(6), 2);
        x.put(2);
        due.is("plan()", x.plan(), 6);
        due.is("count(6)", x.count(6), 6);
        cleaned("plan", x, 0, 2, 0, 0);
        due.is("a move more: 2 is gone at the end", x.hunt(102), 7);
        due.is("clean(3)", x.clean(3), 1);
        due.is("plan() instead of what was", x.plan(), 6);
        x.post();
        due.is("plan() with a post more", x.plan(), NO);
        due.is("count(6) still", x.count(6), 6);
        NarrowRows bare = Nets.of(11);
        bare.best(1, 12345);
        due.is("plan() without roads", bare.plan(), 22);
        cleaned("without roads", bare, 0, 1, 0, 0);
        NarrowRows complete = Nets.complete(11);
        complete.best(1, 54321);
        due.is("plan() of all roads", complete.plan(), 22);
        cleaned("of all roads", complete, 0, 11, 0, 0);
    }

    /** Who is not in the bag any more goes ahead of who comes: else there would be three at once. */
    private static void plansOfAStar() {
        NarrowRows x = Nets.star(5);
        Nets.hold(x, 1, 0, 2, 3, 4);
        due.is("star: plan()", x.plan(), 10);
        cleaned("star", x, 0, 2, 0, 0);
        Nets.hold(x, 4, 3, 2, 1, 0);
        due.is("star from outside: plan()", x.plan(), 10);
        cleaned("star from outside", x, 0, 5, 0, 0);
    }

    /** A plan clears every net, with as many searchers as the largest bag has posts. */
    private static void plansClear() {
        NarrowRows x = Nets.ring(7);
        x.weigh(1, 5, 4);
        x.weigh(2, 6, 1);
        for (int k = 0; k < 30; k++) {
            x.best(5, k * 167);
            due.is("plan() no. " + k, x.plan(), 14);
            cleaned("plan no. " + k, x, 0, x.cost(2) + 1, 0, 0);
        }
    }

    /** Promise 33. */
    private static void cleaning() {
        NarrowRows x = Nets.path(4);
        due.is("clean(-1)", x.clean(-1), BAD);
        due.is("clean(4)", x.clean(4), BAD);
        due.is("clean(MIN)", x.clean(MIN), BAD);
        due.is("clean(MAX)", x.clean(MAX), BAD);
        cleaned("no moves", x, 3, 0, 0, 0);
        go(x, 0);
        cleaned("one searcher", x, 3, 1, 0, 0);
        go(x, 2);
        cleaned("two apart", x, 3, 2, 0, 0);
        go(x, 1);
        cleaned("three", x, 1, 3, 0, 0);
        go(x, 101);
        cleaned("the middle goes: both sides are clean", x, 1, 3, 0, 0);
        go(x, 100);
        cleaned("the end goes", x, 1, 3, 0, 0);
        go(x, 3, 102, 103);
        cleaned("all go", x, 0, 3, 0, 0);
        go(x, 0, 100, 1, 101);
        cleaned("clean roads stay clean", x, 0, 3, 0, 0);
    }

    private static void foulAgain() {
        NarrowRows x = Nets.path(4);
        go(x, 0, 1, 2, 101);
        cleaned("up to 2", x, 1, 3, 0, 0);
        go(x, 102);
        cleaned("2 goes: all is foul, one by the other", x, 3, 3, 2, 0);
        go(x, 2);
        cleaned("2 alone cleans nothing", x, 3, 3, 2, 0);
        go(x, 1, 102);
        cleaned("once more, but 1 keeps the road 0, 1", x, 2, 3, 3, 0);
        NarrowRows ring = Nets.ring(5);
        go(ring, 0, 1, 2, 3, 101, 102);
        cleaned("ring: three roads are clean", ring, 2, 4, 0, 0);
        go(ring, 100);
        cleaned("ring: 0 goes: foul up to 3", ring, 5, 4, 3, 0);
    }

    /** What becomes foul again ends at searchers. */
    private static void foulUpToSearchers() {
        NarrowRows x = Nets.path(6);
        go(x, 0, 1, 2, 3, 4, 101);
        cleaned("four roads are clean", x, 1, 5, 0, 0);
        go(x, 104);
        cleaned("4 goes: the road 3, 4 is foul", x, 2, 5, 1, 0);
        go(x, 103);
        cleaned("3 goes: the road 2, 3 is foul", x, 3, 5, 2, 0);
        go(x, 3);
        cleaned("3 comes: the road 2, 3 is clean again", x, 2, 5, 2, 0);
        go(x, 102);
        cleaned("2 goes: what is clean stays so", x, 2, 5, 2, 0);
        go(x, 103);
        cleaned("3 goes: all is foul", x, 5, 5, 5, 0);
    }

    private static void idleMoves() {
        NarrowRows x = Nets.path(3);
        go(x, 100, 0, 0, 1, 1, 103, 3, 10, 110, 102);
        cleaned("idle", x, 1, 2, 0, 8);
        go(x, 101, 101);
        cleaned("idle and foul", x, 2, 2, 1, 9);
    }

    /** The hunt stays, and is done on the net as it is now. */
    private static void huntsOfANewNet() {
        NarrowRows x = Nets.of(3);
        go(x, 0, 1, 2, 3);
        cleaned("no roads", x, 0, 3, 0, 1);
        x.weigh(0, 1, 5);
        x.weigh(2, 1, 5);
        cleaned("two roads", x, 0, 3, 0, 1);
        x.post();
        cleaned("a post more", x, 0, 4, 0, 0);
        x.weigh(0, 3, 5);
        x.undo();
        x.undo();
        cleaned("undone", x, 0, 3, 0, 1);
        go(x, 101, 100);
        x.lose(2);
        cleaned("a road less", x, 0, 3, 0, 1);
    }

    private static void lastPost() {
        NarrowRows x = Nets.path(11);
        cleaned("eleven", x, 10, 0, 0, 0);
        go(x, 10, 9, 8, 109);
        cleaned("from the end", x, 8, 3, 0, 0);
        go(x, 108);
        cleaned("8 goes", x, 10, 3, 2, 0);
        go(x, 110, 110);
        cleaned("10 goes", x, 10, 3, 2, 1);
        NarrowRows star = Nets.of(11);
        for (int i = 0; i < 10; i++) {
            star.weigh(10, i, 1);
        }
        go(star, 10, 0, 100, 1, 101, 2, 102, 3, 103);
        cleaned("star of 10", star, 6, 2, 0, 0);
        go(star, 110);
        cleaned("star of 10: 10 goes", star, 10, 2, 4, 0);
    }

    /** Promise 35. */
    private static void counts() {
        NarrowRows x = Nets.of(3);
        x.weigh(0, 1, 5);
        x.weigh(1, 0, 6);
        x.weigh(1, 2, 7);
        x.weigh(1, 10, 9);
        x.lose(2);
        x.pair(0, 2);
        Nets.hold(x, 1, 0);
        x.lay(1);
        x.lay(2);
        x.lay(3);
        go(x, 0, 1, 2, 100);
        int[] wanted = {3, 2, 1, 2, 2, 3, 4, 8, 18};
        for (int what = 0; what <= 8; what++) {
            due.is("count(" + what + ")", x.count(what), wanted[what]);
        }
        due.is("count(-1)", x.count(-1), BAD);
        due.is("count(9)", x.count(9), BAD);
        due.is("count(MIN)", x.count(MIN), BAD);
        due.is("count(MAX)", x.count(MAX), BAD);
    }
}
