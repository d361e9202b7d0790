/** Promises 23 to 29: walls, and bags. */
public final class BagTest {
    private static final int BAD = -3, NO = -4, FULL = -5;
    private static final int MIN = Integer.MIN_VALUE;
    private static final int MAX = Integer.MAX_VALUE;

    private static final Due due = new Due("BagTest");

    public static void main(String[] args) {
        walls();
        wallsAreNoLaw();
        wallsStandBelowRows();
        bagsOfARow();
        bagsLaid();
        goodBags();
        goodBagsOfAFullNet();
        bagsThatFollow();
        rowsOfBags();
        bagsAfterUndo();
        thereAndBack();
        fullHandOfBags();
        due.ending();
    }

    /** Promises 23, 24. */
    private static void walls() {
        NarrowRows x = Nets.star(11);
        for (int size = 1; size <= 10; size++) {
            due.is("star: wall(1, " + size + ")", x.wall(1, size), Math.min(size, 11 - size));
            int leaves = ((1 << size) - 1) << 1;
            due.is("star: stone(1, " + size + ")", x.stone(1, size), size <= 5 ? leaves : (1 << size) - 1);
            due.is("star: wall(2, " + size + ")", x.wall(2, size), 1);
            due.is("star: stone(2, " + size + ")", x.stone(2, size), (1 << size) - 1);
        }
        for (int size : new int[] {0, -1, 11, 12, MIN, MAX}) {
            due.is("star: wall(1, " + size + ")", x.wall(1, size), BAD);
            due.is("star: stone(2, " + size + ")", x.stone(2, size), BAD);
        }
        for (int cost : new int[] {-1, 0, 3, 4, 5, 6, MIN, MAX}) {
            due.is("star: wall(" + cost + ", 1)", x.wall(cost, 1), BAD);
            due.is("star: stone(" + cost + ", 1)", x.stone(cost, 1), BAD);
        }
        NarrowRows one = Nets.of(1);
        due.is("one post: wall(1, 1)", one.wall(1, 1), BAD);
        due.is("one post: stone(2, 1)", one.stone(2, 1), BAD);
        NarrowRows y = Nets.of(4);
        y.weigh(0, 1, 9);
        y.weigh(2, 3, 4);
        y.weigh(1, 2, 2);
        due.is("wall(1, 1)", y.wall(1, 1), 4);
        due.is("stone(1, 1)", y.stone(1, 1), 8);
        due.is("wall(1, 2)", y.wall(1, 2), 2);
        due.is("stone(1, 2): of two the least bits", y.stone(1, 2), 3);
        due.is("wall(1, 3)", y.wall(1, 3), 4);
        due.is("stone(1, 3)", y.stone(1, 3), 7);
        due.is("wall(2, 3)", y.wall(2, 3), 1);
        due.is("stone(2, 1)", y.stone(2, 1), 1);
        y.weigh(2, 3, 0);
        due.is("wall(1, 1) without that road", y.wall(1, 1), 0);
        due.is("stone(1, 1) without that road", y.stone(1, 1), 8);
        y.undo();
        due.is("stone(2, 2) asks for the right cost", y.stone(2, 2), 3);
        due.is("wall(1, 1) again", y.wall(1, 1), 4);
    }

    /** Walls are whatever the pairs, and ask for nothing in hand. */
    private static void wallsAreNoLaw() {
        NarrowRows x = Nets.path(3);
        due.is("stone(1, 1)", x.stone(1, 1), 1);
        x.pair(1, 0);
        x.pair(1, 2);
        due.is("stone(1, 1) of no law", x.stone(1, 1), 1);
        due.is("wall(1, 1) of no law", x.wall(1, 1), 1);
        due.is("least(1) of law", x.least(1), 2);
    }

    private static void wallsStandBelowRows() {
        NarrowRows x = Nets.ring(9);
        x.weigh(0, 4, 3);
        x.weigh(2, 7, 5);
        for (int cost = 1; cost <= 2; cost++) {
            for (int size = 1; size <= 8; size++) {
                due.holds("wall(" + cost + ", " + size + ") is not above least", x.wall(cost, size) <= x.least(cost));
                due.is("stone's size", Integer.bitCount(x.stone(cost, size)), size);
            }
        }
    }

    /** Promise 25. */
    private static void bagsOfARow() {
        NarrowRows x = Nets.path(5);
        due.is("bag(0) of nothing in hand", x.bag(0), NO);
        due.is("bag(5): BAD is first", x.bag(5), BAD);
        due.is("bag(-1): BAD is first", x.bag(-1), BAD);
        Nets.hold(x, 0, 1, 2, 3, 4);
        due.is("bag(0)", x.bag(0), 1);
        for (int i = 1; i < 5; i++) {
            due.is("bag(" + i + ")", x.bag(i), 3 << i - 1);
        }
        due.is("bag(5)", x.bag(5), BAD);
        due.is("bag(-1)", x.bag(-1), BAD);
        due.is("bag(MIN)", x.bag(MIN), BAD);
        due.is("bag(MAX)", x.bag(MAX), BAD);
        Nets.hold(x, 0, 2, 4, 1, 3);
        int[] bags = {1, 5, 21, 23, 28};
        for (int i = 0; i < 5; i++) {
            due.is("bag(" + i + ") of 0, 2, 4, 1, 3", x.bag(i), bags[i]);
        }
        NarrowRows star = Nets.star(4);
        Nets.hold(star, 1, 0, 3, 2);
        due.is("star: bag(0)", star.bag(0), 2);
        due.is("star: bag(1)", star.bag(1), 3);
        due.is("star: bag(2)", star.bag(2), 9);
        due.is("star: bag(3)", star.bag(3), 5);
        NarrowRows bare = Nets.of(2);
        Nets.hold(bare, 1, 0);
        due.is("bare: bag(0)", bare.bag(0), 2);
        due.is("bare: bag(1)", bare.bag(1), 1);
    }

    /** Promises 26, 27. */
    private static void bagsLaid() {
        NarrowRows x = Nets.of(3);
        due.is("lay(8)", x.lay(8), BAD);
        due.is("lay(9)", x.lay(9), BAD);
        due.is("lay(-1)", x.lay(-1), BAD);
        due.is("lay(MIN)", x.lay(MIN), BAD);
        due.is("lay(MAX)", x.lay(MAX), BAD);
        due.is("lay(0)", x.lay(0), 1);
        due.is("lay(7)", x.lay(7), 2);
        due.is("count(5)", x.count(5), 2);
        due.is("empty()", x.empty(), 2);
        due.is("count(5) then", x.count(5), 0);
        due.is("empty() again", x.empty(), 0);
        for (int i = 1; i <= 20; i++) {
            due.is("lay(1) no. " + i, x.lay(1), i);
        }
        due.is("lay(1) no. 21", x.lay(1), FULL);
        due.is("lay(8): BAD is first", x.lay(8), BAD);
        due.is("count(5) of a full hand", x.count(5), 20);
        due.is("bags are no changes", x.count(7), 6);
        due.is("empty() of a full hand", x.empty(), 20);
        due.is("full net: lay(2047)", Nets.of(11).lay(2047), 1);
        due.is("full net: lay(2048)", Nets.of(11).lay(2048), BAD);
    }

    /** Promise 28. */
    private static void goodBags() {
        NarrowRows x = Nets.path(4);
        due.is("good() of no bags", x.good(), 100);
        x.lay(5);
        due.is("good(): post 1 is in none", x.good(), 101);
        x.lay(8);
        due.is("good(): still", x.good(), 101);
        x.lay(2);
        due.is("good(): the road 0, 1", x.good(), 201);
        x.lay(3);
        due.is("good(): the road 1, 2", x.good(), 213);
        x.lay(6);
        due.is("good(): the road 2, 3", x.good(), 225);
        x.lay(12);
        due.is("good(): post 0 is in bags 0 and 3", x.good(), 400);
        x.empty();
        x.lay(3);
        x.lay(6);
        x.lay(12);
        due.is("good()", x.good(), 0);
        x.lay(8);
        due.is("good() with one more", x.good(), 0);
        x.lay(4);
        due.is("good(): post 2 is in bags 1, 2 and 4", x.good(), 402);
        x.weigh(0, 3, 1);
        due.is("good(): roads come first", x.good(), 203);
        x.post();
        due.is("good(): posts come first of all", x.good(), 104);
    }

    /** The other post of a road may have two digits: 11 times the one and the other. */
    private static void goodBagsOfAFullNet() {
        NarrowRows x = Nets.of(11);
        x.weigh(10, 9, 1);
        x.lay(2047 & ~1024);
        due.is("good(): post 10", x.good(), 110);
        x.lay(1024);
        due.is("good(): the road 9, 10", x.good(), 200 + 99 + 10);
        x.lay(1024 + 512);
        due.is("good(): post 9", x.good(), 409);
        x.empty();
        x.lay(1);
        x.lay(2046);
        x.lay(0);
        x.lay(1024);
        due.is("good(): post 10 in two bags apart", x.good(), 410);
    }

    private static void bagsThatFollow() {
        NarrowRows x = Nets.of(2);
        x.lay(3);
        x.lay(0);
        x.lay(2);
        due.is("good(): an empty bag stands between", x.good(), 401);
        x.empty();
        x.lay(0);
        x.lay(2);
        x.lay(3);
        x.lay(1);
        x.lay(0);
        due.is("good(): empty bags at the ends", x.good(), 0);
        due.is("rowOf()", x.rowOf(), 2);
        Nets.held(due, "rowOf()", x, 1, 0);
    }

    /** Promise 29. */
    private static void rowsOfBags() {
        NarrowRows x = Nets.path(4);
        Nets.hold(x, 3, 1);
        x.lay(3);
        due.is("rowOf() of bags that are not good", x.rowOf(), NO);
        Nets.held(due, "rowOf() refused", x, 3, 1);
        x.empty();
        x.lay(12);
        x.lay(6);
        x.lay(7);
        due.is("rowOf()", x.rowOf(), 3);
        Nets.held(due, "rowOf(): by bags, then by numbers", x, 2, 3, 1, 0);
        x.empty();
        x.lay(15);
        due.is("rowOf() of one bag", x.rowOf(), 4);
        Nets.held(due, "rowOf() of one bag", x, 0, 1, 2, 3);
        x.pair(3, 0);
        due.is("rowOf() whatever the pairs", x.rowOf(), 4);
        due.is("lawful()", x.lawful(), 0);
    }

    /** Bits of posts that there are not any more are not looked at. */
    private static void bagsAfterUndo() {
        NarrowRows x = new NarrowRows();
        x.post();
        x.post();
        x.post();
        x.lay(5);
        x.lay(2);
        x.lay(4);
        due.is("good(): post 2 is in bags 0 and 2", x.good(), 402);
        x.undo();
        due.is("good() without it", x.good(), 0);
        due.is("rowOf() without it", x.rowOf(), 1);
        Nets.held(due, "rowOf() without it", x, 0, 1);
        due.is("lay(4) without it", x.lay(4), BAD);
        due.is("count(5)", x.count(5), 3);
        x.post();
        due.is("good() with it again", x.good(), 402);
    }

    /** The bags of a row are good, and the most posts in one are its opens and 1. */
    private static void thereAndBack() {
        NarrowRows x = Nets.ring(7);
        x.weigh(1, 5, 4);
        x.weigh(2, 6, 1);
        for (int k = 0; k < 20; k++) {
            due.is("best(5, " + k * 250 + ")", x.best(5, k * 250), 7);
            int opens = x.cost(2);
            x.empty();
            for (int i = 0; i < 7; i++) {
                x.lay(x.bag(i));
            }
            due.is("good()", x.good(), 0);
            due.is("rowOf()", x.rowOf(), opens + 1);
            due.is("number(5) of the same row", x.number(5), k * 250);
        }
    }

    /** 20 bags; and of those that were there before empty() nothing is left. */
    private static void fullHandOfBags() {
        NarrowRows x = Nets.of(11);
        for (int i = 0; i < 10; i++) {
            x.weigh(i, i + 1, 1);
        }
        x.lay(1 << 10);
        for (int i = 9; i >= 0; i--) {
            x.lay(3 << i);
        }
        for (int i = 11; i < 20; i++) {
            due.is("lay no. " + i, x.lay(1), i + 1);
        }
        due.is("20 bags: good()", x.good(), 0);
        due.is("20 bags: rowOf()", x.rowOf(), 2);
        Nets.held(due, "20 bags", x, 10, 9, 8, 7, 6, 5, 4, 3, 2, 1, 0);
        x.empty();
        for (int i = 0; i < 19; i++) {
            x.lay(1);
        }
        x.lay(2046);
        due.is("20 others: good()", x.good(), 201);
        x.empty();
        x.lay(2047);
        due.is("one bag, and none of those that were: good()", x.good(), 0);
        due.is("one bag: rowOf()", x.rowOf(), 11);
        x.empty();
        x.lay(1);
        due.is("one post alone, and none of those that were", x.good(), 101);
        NarrowRows y = Nets.of(2);
        y.lay(1);
        y.lay(2);
        y.lay(3);
        y.lay(3);
        y.empty();
        y.lay(1);
        y.lay(2);
        due.is("what was there does not tear", y.good(), 0);
        due.is("what was there does not count", y.rowOf(), 1);
    }
}
