/** Promises 11 to 22: the row in hand, what it costs, and the best rows. */
public final class RowTest {
    private static final int NONE = -1, BAD = -3, NO = -4, LARGE = -6;
    private static final int MIN = Integer.MIN_VALUE;
    private static final int MAX = Integer.MAX_VALUE;
    private static final int ALL_OF_11 = 39916800;
    private static final int ALL_OF_10 = 3628800;

    private static final Due due = new Due("RowTest");

    public static void main(String[] args) {
        beginAndPut();
        places();
        moves();
        costs();
        costsOfPairs();
        wheres();
        laws();
        leastAndMany();
        bestRows();
        bestRowsOfLaw();
        roundARing();
        largeNets();
        numbers();
        fullNets();
        fullHands();
        lightRoads();
        betterRows();
        betterOfSeveral();
        betterAndTheLaw();
        changesAreSeen();
        nothingStaysBehind();
        due.ending();
    }

    /** The path 0 - 2 - 1 - 3 with weights 3, 2, 4. */
    private static NarrowRows crooked() {
        NarrowRows x = Nets.of(4);
        x.weigh(0, 2, 3);
        x.weigh(2, 1, 2);
        x.weigh(3, 1, 4);
        return x;
    }

    /** Promises 11, 12. */
    private static void beginAndPut() {
        NarrowRows x = Nets.of(3);
        due.is("put(3)", x.put(3), BAD);
        due.is("put(-1)", x.put(-1), BAD);
        due.is("put(MIN)", x.put(MIN), BAD);
        due.is("put(MAX)", x.put(MAX), BAD);
        due.is("put(2)", x.put(2), 1);
        due.is("put(2) again", x.put(2), BAD);
        due.is("put(0)", x.put(0), 2);
        due.is("put(2) once more", x.put(2), BAD);
        due.is("put(1)", x.put(1), 3);
        due.is("count(4)", x.count(4), 3);
        due.is("begin()", x.begin(), 3);
        due.is("count(4) then", x.count(4), 0);
        due.is("begin() again", x.begin(), 0);
        due.is("put(1) first", x.put(1), 1);
        due.is("begin() of one", x.begin(), 1);
        due.is("puts are no changes", x.count(7), 6);
    }

    /** Promise 13. */
    private static void places() {
        NarrowRows x = Nets.of(3);
        due.is("at(0) of nothing", x.at(0), BAD);
        Nets.hold(x, 2, 0);
        due.is("at(0)", x.at(0), 2);
        due.is("at(1)", x.at(1), 0);
        due.is("at(2)", x.at(2), BAD);
        due.is("at(-1)", x.at(-1), BAD);
        due.is("at(MAX)", x.at(MAX), BAD);
        due.is("at(MIN)", x.at(MIN), BAD);
        x.begin();
        due.is("at(0) after begin()", x.at(0), BAD);
    }

    /** Promise 14. */
    private static void moves() {
        NarrowRows x = Nets.of(6);
        Nets.hold(x, 3, 1, 2, 0, 4);
        due.is("move(0, 2)", x.move(0, 2), 0);
        Nets.held(due, "move(0, 2)", x, 1, 2, 3, 0, 4);
        due.is("move(4, 1)", x.move(4, 1), 0);
        Nets.held(due, "move(4, 1)", x, 1, 4, 2, 3, 0);
        due.is("move(2, 2)", x.move(2, 2), 0);
        Nets.held(due, "move(2, 2)", x, 1, 4, 2, 3, 0);
        due.is("move(0, 4)", x.move(0, 4), 0);
        Nets.held(due, "move(0, 4)", x, 4, 2, 3, 0, 1);
        due.is("move(4, 0)", x.move(4, 0), 0);
        Nets.held(due, "move(4, 0)", x, 1, 4, 2, 3, 0);
        due.is("move(0, 5)", x.move(0, 5), BAD);
        due.is("move(5, 0)", x.move(5, 0), BAD);
        due.is("move(-1, 0)", x.move(-1, 0), BAD);
        due.is("move(0, -1)", x.move(0, -1), BAD);
        due.is("move(MAX, MIN)", x.move(MAX, MIN), BAD);
        Nets.held(due, "refused moves", x, 1, 4, 2, 3, 0);
        x.begin();
        due.is("move(0, 0) of nothing", x.move(0, 0), BAD);
    }

    /** Promise 15. */
    private static void costs() {
        NarrowRows x = crooked();
        Nets.hold(x, 0, 1, 2);
        for (int cost = 0; cost <= 5; cost++) {
            due.is("cost(" + cost + ") of less than all", x.cost(cost), NO);
        }
        due.is("cost(6): BAD is first", x.cost(6), BAD);
        due.is("cost(-1): BAD is first", x.cost(-1), BAD);
        x.put(3);
        due.is("cost(6)", x.cost(6), BAD);
        due.is("cost(-1)", x.cost(-1), BAD);
        due.is("cost(MIN)", x.cost(MIN), BAD);
        int[] straight = {2, 9, 2, 16, 16, 1};
        int[] bent = {3, 9, 2, 17, 11, 1};
        int[] good = {1, 4, 1, 9, 9, 1};
        for (int cost = 0; cost <= 5; cost++) {
            Nets.hold(x, 0, 1, 2, 3);
            due.is("cost(" + cost + ") of 0, 1, 2, 3", x.cost(cost), straight[cost]);
            Nets.hold(x, 0, 1, 3, 2);
            due.is("cost(" + cost + ") of 0, 1, 3, 2", x.cost(cost), bent[cost]);
            Nets.hold(x, 3, 1, 2, 0);
            due.is("cost(" + cost + ") of 3, 1, 2, 0", x.cost(cost), good[cost]);
        }
        NarrowRows one = Nets.of(1);
        one.put(0);
        for (int cost = 0; cost <= 5; cost++) {
            due.is("cost(" + cost + ") of one post", one.cost(cost), cost == 5 ? 1 : 0);
        }
        x.post();
        due.is("cost(1) with one post more", x.cost(1), NO);
        x.put(4);
        due.is("cost(1) with it", x.cost(1), 4);
        x.undo();
        due.is("cost(1) with one too many", x.cost(1), NO);
    }

    private static void costsOfPairs() {
        NarrowRows x = Nets.of(5);
        x.pair(0, 2);
        x.pair(1, 2);
        x.pair(2, 4);
        x.pair(3, 4);
        Nets.hold(x, 0, 1, 2, 3, 4);
        due.is("cells of 0, 1, 2, 3, 4", x.cost(5), 3);
        due.is("where(5)", x.where(5), 1);
        Nets.hold(x, 3, 0, 1, 2, 4);
        due.is("cells of 3, 0, 1, 2, 4", x.cost(5), 4);
        due.is("where(5)", x.where(5), 2);
        Nets.hold(x, 4, 3, 2, 1, 0);
        due.is("cells of no law: pairs the wrong way hold nothing", x.cost(5), 1);
        due.is("where(5): ahead of all", x.where(5), NONE);
        due.is("least(5)", x.least(5), 3);
        due.is("many(5)", x.many(5), 2);
        x.best(5, 1);
        Nets.held(due, "best(5, 1)", x, 1, 0, 2, 3, 4);
        NarrowRows chain = Nets.of(3);
        chain.pair(0, 1);
        chain.pair(1, 2);
        Nets.hold(chain, 0, 1, 2);
        due.is("cells: only straight pairs hold", chain.cost(5), 2);
        due.is("where(5) is the first", chain.where(5), 0);
    }

    /** Promise 16. */
    private static void wheres() {
        NarrowRows x = crooked();
        Nets.hold(x, 0, 1, 2);
        due.is("where(0)", x.where(0), NO);
        due.is("where(1)", x.where(1), NO);
        due.is("where(2)", x.where(2), NO);
        due.is("where(5)", x.where(5), NO);
        due.is("where(3): BAD is first", x.where(3), BAD);
        due.is("where(4): BAD is first", x.where(4), BAD);
        due.is("where(6)", x.where(6), BAD);
        due.is("where(-1)", x.where(-1), BAD);
        x.put(3);
        due.is("where(0) of two with that span", x.where(0), 0);
        due.is("where(1)", x.where(1), 1);
        due.is("where(2)", x.where(2), 1);
        due.is("where(5): no pairs", x.where(5), NONE);
        due.is("where(3)", x.where(3), BAD);
        due.is("where(4)", x.where(4), BAD);
        Nets.hold(x, 0, 2, 3, 1);
        // spans 1, 2, 1; cuts 3, 2, 6; open 0, then 2, then 2 and 3
        due.is("where(0) of the longest", x.where(0), 1);
        due.is("where(1) at the end", x.where(1), 2);
        due.is("where(2) at the end", x.where(2), 2);
        Nets.hold(x, 3, 1, 2, 0);
        due.is("where(0) of the first", x.where(0), 0);
        due.is("where(1) of the first", x.where(1), 0);
        due.is("where(2) of the first", x.where(2), 0);
        NarrowRows bare = Nets.of(3);
        Nets.hold(bare, 2, 1, 0);
        due.is("where(0): nothing costs", bare.where(0), NONE);
        due.is("where(1): nothing costs", bare.where(1), NONE);
        due.is("where(2): nothing costs", bare.where(2), NONE);
    }

    /** Promise 17. */
    private static void laws() {
        NarrowRows x = Nets.of(3);
        x.pair(2, 0);
        Nets.hold(x, 2, 1);
        due.is("lawful() of less than all", x.lawful(), NO);
        x.put(0);
        due.is("lawful() of 2, 1, 0", x.lawful(), 1);
        x.move(0, 1);
        due.is("lawful() of 1, 2, 0", x.lawful(), 1);
        x.move(1, 2);
        due.is("lawful() of 1, 0, 2", x.lawful(), 0);
        x.part(2, 0);
        due.is("lawful() without pairs", x.lawful(), 1);
        x.undo();
        due.is("lawful() with it again", x.lawful(), 0);
    }

    /** Promises 18, 19. */
    private static void leastAndMany() {
        NarrowRows x = crooked();
        int[] least = {1, 4, 1, 9, 9, 1};
        int[] many = {2, 2, 4, 2, 8, 24};
        for (int cost = 0; cost <= 5; cost++) {
            due.is("least(" + cost + ")", x.least(cost), least[cost]);
            due.is("many(" + cost + ")", x.many(cost), many[cost]);
        }
        for (int cost : new int[] {-1, 6, MIN, MAX}) {
            due.is("least(" + cost + ")", x.least(cost), BAD);
            due.is("many(" + cost + ")", x.many(cost), BAD);
            due.is("best(" + cost + ", 0)", x.best(cost, 0), BAD);
            due.is("number(" + cost + ")", x.number(cost), BAD);
            due.is("better(" + cost + ", 1)", x.better(cost, 1), BAD);
        }
        due.is("least() asks for nothing in hand", x.count(4), 0);
        due.is("complete: least(0)", Nets.complete(7).least(0), 6);
        due.is("complete: many(0)", Nets.complete(7).many(0), 5040);
        due.is("complete: least(4)", Nets.complete(7).least(4), 42);
        due.is("complete: many(4)", Nets.complete(7).many(4), 5040);
        due.is("star: least(0)", Nets.star(7).least(0), 3);
        due.is("star: many(0): 0 in the middle", Nets.star(7).many(0), 720);
        due.is("star: least(4): twice 1 + 2 + 3", Nets.star(7).least(4), 12);
        due.is("star: many(4): 0 anywhere", Nets.star(7).many(4), 5040);
    }

    /** Promise 20. */
    private static void bestRows() {
        NarrowRows x = crooked();
        Nets.hold(x, 1, 3);
        due.is("best(3, -1)", x.best(3, -1), BAD);
        due.is("best(3, MIN)", x.best(3, MIN), BAD);
        due.is("best(3, 2)", x.best(3, 2), NONE);
        due.is("best(3, MAX)", x.best(3, MAX), NONE);
        Nets.held(due, "refused best rows", x, 1, 3);
        due.is("best(3, 0)", x.best(3, 0), 4);
        Nets.held(due, "best(3, 0)", x, 0, 2, 1, 3);
        due.is("best(3, 1)", x.best(3, 1), 4);
        Nets.held(due, "best(3, 1)", x, 3, 1, 2, 0);
        due.is("best(0, 1)", x.best(0, 1), 4);
        Nets.held(due, "best(0, 1)", x, 3, 1, 2, 0);
        due.is("best(5, 23)", x.best(5, 23), 4);
        Nets.held(due, "best(5, 23)", x, 3, 2, 1, 0);
        due.is("best(5, 24)", x.best(5, 24), NONE);
        due.is("best(2, 1)", x.best(2, 1), 4);
        Nets.held(due, "best(2, 1): 0 and 2 may change", x, 1, 3, 2, 0);
    }

    private static void bestRowsOfLaw() {
        NarrowRows x = crooked();
        x.pair(3, 0);
        due.is("many(3) of law", x.many(3), 1);
        due.is("best(3, 0) of law", x.best(3, 0), 4);
        Nets.held(due, "best(3, 0) of law", x, 3, 1, 2, 0);
        due.is("many(0) of law", x.many(0), 1);
        due.is("best(0, 0) of law", x.best(0, 0), 4);
        Nets.held(due, "best(0, 0) of law", x, 3, 1, 2, 0);
        due.is("many(5) of law", x.many(5), 12);
        x.pair(2, 1);
        // 3 ahead of 0, 2 ahead of 1: the path can not stand in its own order any more
        due.is("least(0) of more law", x.least(0), 2);
        due.is("least(1) of more law: 2, 1, 3, 0", x.least(1), 7);
        due.is("least(3) of more law: 2, 1, 3, 0", x.least(3), 15);
        due.is("many(3) of more law", x.many(3), 1);
    }

    private static void roundARing() {
        NarrowRows x = Nets.ring(7);
        due.is("ring: least(0)", x.least(0), 2);
        due.is("ring: least(1)", x.least(1), 2);
        due.is("ring: least(2)", x.least(2), 2);
        due.is("ring: least(3)", x.least(3), 12);
        due.is("ring: least(4)", x.least(4), 7);
        due.is("ring: many(4)", x.many(4), 14);
        x.best(4, 1);
        Nets.held(due, "ring: best(4, 1)", x, 0, 6, 5, 4, 3, 2, 1);
        due.is("ring: number(4)", x.number(4), 1);
        x.best(4, 2);
        Nets.held(due, "ring: best(4, 2)", x, 1, 0, 6, 5, 4, 3, 2);
        due.is("ring: number(4)", x.number(4), 2);
        x.best(4, 13);
        Nets.held(due, "ring: best(4, 13)", x, 6, 5, 4, 3, 2, 1, 0);
        due.is("ring: number(4)", x.number(4), 13);
        due.is("ring: number(0): its span is 6", x.number(0), NONE);
    }

    private static void largeNets() {
        NarrowRows seven = Nets.path(7);
        due.is("7 posts: least(0)", seven.least(0), 1);
        due.is("7 posts: least(4)", seven.least(4), 6);
        NarrowRows x = Nets.path(8);
        for (int cost = 0; cost <= 4; cost += 4) {
            due.is("8 posts: least(" + cost + ")", x.least(cost), LARGE);
            due.is("8 posts: many(" + cost + ")", x.many(cost), LARGE);
            due.is("8 posts: best(" + cost + ", 0)", x.best(cost, 0), LARGE);
            due.is("8 posts: best(" + cost + ", -1): BAD is first", x.best(cost, -1), BAD);
            due.is("8 posts: number(" + cost + "): NO is first", x.number(cost), NO);
        }
        Nets.hold(x, 0, 1, 2, 3, 4, 5, 7, 6);
        due.is("8 posts: number(0)", x.number(0), LARGE);
        due.is("8 posts: number(4)", x.number(4), LARGE);
        due.is("8 posts: cost(0)", x.cost(0), 2);
        due.is("8 posts: cost(4)", x.cost(4), 8);
        due.is("8 posts: better(0, 5)", x.better(0, 5), 1);
        Nets.held(due, "8 posts: better(0, 5)", x, 0, 1, 2, 3, 4, 5, 6, 7);
        x.undo();
        due.is("8 posts: least(3)", x.least(3), 6);
    }

    /** Promise 21. */
    private static void numbers() {
        NarrowRows x = crooked();
        Nets.hold(x, 0, 1, 2);
        due.is("number(3) of less than all", x.number(3), NO);
        due.is("number(6): BAD is first", x.number(6), BAD);
        x.put(3);
        due.is("number(3): it is none", x.number(3), NONE);
        due.is("number(5): each is one", x.number(5), 0);
        for (int cost = 0; cost <= 5; cost++) {
            int many = x.many(cost);
            for (int k = 0; k < many; k++) {
                due.is("best(" + cost + ", " + k + ")", x.best(cost, k), 4);
                due.is("number(" + cost + ") of it", x.number(cost), k);
                due.is("cost(" + cost + ") of it", x.cost(cost), x.least(cost));
            }
        }
        x.pair(3, 0);
        Nets.hold(x, 0, 2, 1, 3);
        for (int cost = 0; cost <= 5; cost++) {
            due.is("number(" + cost + ") of no law", x.number(cost), NONE);
        }
        Nets.hold(x, 3, 1, 2, 0);
        due.is("number(3) of law", x.number(3), 0);
        due.is("number(0) of law", x.number(0), 0);
    }

    /** With 11 posts, where numbers can be told without a machine. */
    private static void fullNets() {
        NarrowRows bare = Nets.of(11);
        for (int cost : new int[] {1, 2, 3, 5}) {
            due.is("bare: least(" + cost + ")", bare.least(cost), cost == 5 ? 1 : 0);
            due.is("bare: many(" + cost + ")", bare.many(cost), ALL_OF_11);
            due.is("bare: best(" + cost + ", last)", bare.best(cost, ALL_OF_11 - 1), 11);
            Nets.held(due, "bare", bare, 10, 9, 8, 7, 6, 5, 4, 3, 2, 1, 0);
            due.is("bare: number(" + cost + ")", bare.number(cost), ALL_OF_11 - 1);
            due.is("bare: best(" + cost + ", beyond)", bare.best(cost, ALL_OF_11), NONE);
            due.is("bare: best(" + cost + ", 10!)", bare.best(cost, ALL_OF_10), 11);
            Nets.held(due, "bare", bare, 1, 0, 2, 3, 4, 5, 6, 7, 8, 9, 10);
        }
        NarrowRows star = Nets.star(11);
        due.is("star: least(1)", star.least(1), 5);
        due.is("star: many(1): 0 in the middle", star.many(1), ALL_OF_10);
        star.best(1, 0);
        Nets.held(due, "star: best(1, 0)", star, 1, 2, 3, 4, 5, 0, 6, 7, 8, 9, 10);
        star.best(1, ALL_OF_10 - 1);
        Nets.held(due, "star: best(1, last)", star, 10, 9, 8, 7, 6, 0, 5, 4, 3, 2, 1);
        due.is("star: number(1)", star.number(1), ALL_OF_10 - 1);
        due.is("star: least(2)", star.least(2), 1);
        due.is("star: many(2): 0 at one of two places", star.many(2), 2 * ALL_OF_10);
        due.is("star: least(3)", star.least(3), 30);
        due.is("star: many(3)", star.many(3), ALL_OF_10);
        NarrowRows complete = Nets.complete(11);
        due.is("complete: least(1)", complete.least(1), 30);
        due.is("complete: least(2)", complete.least(2), 10);
        due.is("complete: least(3)", complete.least(3), 220);
        due.is("complete: many(3)", complete.many(3), ALL_OF_11);
        NarrowRows chain = Nets.path(11);
        due.is("path: many(1)", chain.many(1), 2);
        for (int i = 10; i > 0; i--) {
            chain.pair(i, i - 1);
        }
        for (int cost : new int[] {1, 2, 3, 5}) {
            due.is("chain: many(" + cost + ")", chain.many(cost), 1);
            due.is("chain: least(" + cost + ")", chain.least(cost), cost == 3 ? 10 : cost == 5 ? 2 : 1);
        }
        chain.best(5, 0);
        Nets.held(due, "chain: best(5, 0)", chain, 10, 9, 8, 7, 6, 5, 4, 3, 2, 1, 0);
    }

    /** Rows of 11 posts in hand: the last place counts like the others. */
    private static void fullHands() {
        NarrowRows x = Nets.path(11);
        Nets.hold(x, 0, 1, 2, 3, 4, 5, 6, 7, 8, 9, 10);
        due.is("full: lawful()", x.lawful(), 1);
        due.is("full: where(0)", x.where(0), 0);
        due.is("full: where(1)", x.where(1), 0);
        due.is("full: where(2)", x.where(2), 0);
        due.is("full: where(5)", x.where(5), NONE);
        due.is("full: put(10)", x.put(10), BAD);
        due.is("full: move(10, 0)", x.move(10, 0), 0);
        Nets.held(due, "full: move(10, 0)", x, 10, 0, 1, 2, 3, 4, 5, 6, 7, 8, 9);
        due.is("full: cost(0)", x.cost(0), 10);
        due.is("full: cost(3)", x.cost(3), 19);
        due.is("full: cost(4)", x.cost(4), 10);
        due.is("full: better(3, 60)", x.better(3, 60), 1);
        Nets.held(due, "full: better(3, 60)", x, 0, 1, 2, 3, 4, 5, 6, 7, 8, 9, 10);
        due.is("full: move(0, 10)", x.move(0, 10), 0);
        Nets.held(due, "full: move(0, 10)", x, 1, 2, 3, 4, 5, 6, 7, 8, 9, 10, 0);
        x.pair(10, 0);
        due.is("full: lawful() of law", x.lawful(), 1);
        x.undo();
        x.pair(0, 10);
        due.is("full: lawful() of no law", x.lawful(), 0);
        due.is("full: better(0, 60): 0 goes to the first place", x.better(0, 60), 1);
        Nets.held(due, "full: better(0, 60)", x, 0, 1, 2, 3, 4, 5, 6, 7, 8, 9, 10);
        NarrowRows y = Nets.of(3);
        Nets.hold(y, 0, 1, 2);
        y.undo();
        y.undo();
        y.undo();
        y.undo();
        due.is("a post that is none: cost(1)", y.cost(1), NO);
        Nets.hold(y, 0);
        due.is("less than all: cost(1)", y.cost(1), NO);
        y.post();
        Nets.hold(y, 2, 0);
        y.undo();
        due.is("as many as there are, but one is none: cost(1)", y.cost(1), NO);
        due.is("as many as there are, but one is none: number(1)", y.number(1), NO);
        due.is("as many as there are, but one is none: plan()", y.plan(), NO);
        due.is("at(0) as it was put", y.at(0), 2);
    }

    /** Roads of weight 1 are roads, and those of 0 are none. */
    private static void lightRoads() {
        NarrowRows x = Nets.of(5);
        x.weigh(0, 3, 1);
        x.weigh(1, 2, 5);
        x.weigh(1, 4, 0);
        Nets.hold(x, 1, 2, 0, 4, 3);
        due.is("where(0) of a light one", x.where(0), 2);
        due.is("cost(0)", x.cost(0), 2);
        due.is("cost(4)", x.cost(4), 7);
        Nets.hold(x, 4, 1, 2, 0, 3);
        due.is("cost(0) of both", x.cost(0), 1);
        due.is("where(0) of both", x.where(0), 1);
        Nets.hold(x, 1, 0, 4, 2, 3);
        due.is("cost(0) of two like", x.cost(0), 3);
        due.is("where(0) of two like", x.where(0), 0);
        Nets.hold(x, 4, 0, 3, 1, 2);
        due.is("where(0) further on", x.where(0), 1);
        Nets.hold(x, 4, 1, 2, 3, 0);
        due.is("where(0) of two neighbours", x.where(0), 1);
        Nets.hold(x, 4, 1, 3, 2, 0);
        due.is("where(0) of two that cross", x.where(0), 1);
        NarrowRows y = Nets.of(6);
        y.weigh(0, 1, 1);
        y.weigh(2, 3, 1);
        Nets.hold(y, 4, 0, 1, 2, 5, 3);
        due.is("where(0): a longer one behind a short one", y.where(0), 3);
    }

    /** Promise 22. */
    private static void betterRows() {
        NarrowRows x = Nets.path(8);
        Nets.hold(x, 7, 0, 6, 1, 5, 2, 4);
        due.is("better(3, 1) of less than all", x.better(3, 1), NO);
        due.is("better(3, 0): BAD is first", x.better(3, 0), BAD);
        x.put(3);
        due.is("better(3, 0)", x.better(3, 0), BAD);
        due.is("better(3, -1)", x.better(3, -1), BAD);
        due.is("better(3, 61)", x.better(3, 61), BAD);
        due.is("better(3, MAX)", x.better(3, MAX), BAD);
        Nets.held(due, "refused better()", x, 7, 0, 6, 1, 5, 2, 4, 3);
        int before = x.cost(3);
        due.is("better(3, 1)", x.better(3, 1), 1);
        due.holds("costs less", x.cost(3) < before);
        int more = x.better(3, 60);
        due.holds("goes on", more > 0 && more < 60);
        due.is("better(3, 60) at the end", x.better(3, 60), 0);
        NarrowRows two = Nets.of(4);
        two.weigh(0, 1, 1);
        two.weigh(2, 3, 1);
        Nets.hold(two, 0, 2, 1, 3);
        due.is("better(3, 60) of a row", two.better(3, 60), 1);
        // sum 4; with 0 behind 1 (place 0 to 2) it is 2, 1, 0, 3: 3 + 1; to 1: 2, 0, 1, 3: 1 + 3;
        // with 2 (place 1) at 2: 0, 1, 2, 3: 2, the first that comes to 2
        Nets.held(due, "better(3, 60)", two, 0, 1, 2, 3);
    }

    private static void betterOfSeveral() {
        NarrowRows x = Nets.path(3);
        Nets.hold(x, 0, 2, 1);
        due.is("better(3, 1)", x.better(3, 1), 1);
        Nets.held(due, "of the least place", x, 2, 1, 0);
        NarrowRows far = Nets.of(4);
        far.weigh(0, 1, 1);
        Nets.hold(far, 0, 2, 3, 1);
        due.is("better(3, 60)", far.better(3, 60), 1);
        Nets.held(due, "to the least place", far, 2, 3, 0, 1);
        Nets.hold(far, 0, 2, 3, 1);
        due.is("better(0, 60)", far.better(0, 60), 1);
        Nets.held(due, "costs least of all", far, 2, 3, 0, 1);
        Nets.hold(far, 0, 2, 1, 3);
        due.is("better(2, 60): it is least", far.better(2, 60), 0);
        Nets.held(due, "stays", far, 0, 2, 1, 3);
    }

    private static void betterAndTheLaw() {
        NarrowRows x = Nets.of(3);
        x.weigh(0, 1, 1);
        x.pair(2, 0);
        Nets.hold(x, 0, 2, 1);
        due.is("better(3, 5) becomes lawful", x.better(3, 5), 1);
        Nets.held(due, "becomes lawful", x, 2, 0, 1);
        NarrowRows y = Nets.of(3);
        y.weigh(0, 1, 1);
        y.pair(0, 2);
        Nets.hold(y, 0, 2, 1);
        due.is("better(3, 5) stays lawful", y.better(3, 5), 1);
        Nets.held(due, "stays lawful", y, 0, 1, 2);
        NarrowRows z = Nets.of(3);
        z.pair(2, 0);
        Nets.hold(z, 0, 1, 2);
        due.is("better(3, 5): lawful alone is not better", z.better(3, 5), 0);
        Nets.held(due, "not better", z, 0, 1, 2);
    }

    /** What was found before a change must not be answered after it. */
    private static void changesAreSeen() {
        NarrowRows x = Nets.path(5);
        for (int cost = 0; cost <= 5; cost++) {
            int least = x.least(cost);
            int many = x.many(cost);
            x.weigh(0, 4, 3);
            x.pair(3, 1);
            due.is("least(" + cost + ") of the new net", x.least(cost), new int[] {2, 4, 2, 10, 7, 2}[cost]);
            x.undo();
            x.undo();
            due.is("least(" + cost + ") of the old net", x.least(cost), least);
            due.is("many(" + cost + ") of the old net", x.many(cost), many);
        }
    }

    /** Each question is asked between two others: what one found must not be in the way of the next. */
    private static void nothingStaysBehind() {
        for (int one = 0; one < QUESTIONS; one++) {
            int alone = ask(asked(), one);
            for (int other = 0; other < QUESTIONS; other++) {
                NarrowRows x = asked();
                due.is("question " + one + " ahead of " + other, ask(x, one), alone);
                ask(x, other);
                due.is("question " + one + " behind " + other, ask(x, one), alone);
            }
        }
    }

    private static final int QUESTIONS = 28;

    private static NarrowRows asked() {
        NarrowRows x = Nets.ring(6);
        x.weigh(0, 3, 7);
        x.weigh(1, 5, 2);
        x.pair(2, 0);
        x.pair(4, 1);
        return x;
    }

    /** Questions 0 to 23 are least, many, the last best row and its number for each cost, then walls. */
    private static int ask(NarrowRows x, int question) {
        int cost = question % 6;
        switch (question / 6) {
            case 0:
                return x.least(cost);
            case 1:
                return x.many(cost);
            case 2:
                return x.best(cost, x.many(cost) - 1) + 10 * x.at(0) + 100 * x.at(3) + 1000 * x.cost(cost);
            case 3:
                Nets.hold(x, 2, 3, 4, 1, 5, 0);
                return x.number(cost);
            default:
                return question % 2 == 0 ? x.wall(1 + cost / 2, 3) : x.stone(1 + cost / 2, 3);
        }
    }
}
