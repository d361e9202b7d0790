import java.util.ArrayList;
import java.util.List;
import java.util.function.ToIntFunction;

/**
 * What is refused changes nothing. Two objects are made alike, one of them is asked for what it refuses,
 * and then all that can be asked must be answered alike; so too when the latest change is taken back.
 */
final class RefusalEdgesTest extends Edges {
    private static final String SENTENCE = "and changes nothing.";

    public static void main(String[] args) throws ReflectiveOperationException {
        runAll(RefusalEdgesTest.class);
    }

    /** All is full: 11 posts, 30 pairs, a row of all in hand, 20 bags that are not good, 60 moves. */
    private static NarrowRows full() {
        NarrowRows x = new NarrowRows();
        for (int post = 0; post < 11; post++) {
            x.post();
        }
        x.sheet(0, 0, 11);
        x.sheet(1, 1, 11);
        x.sheet(2, 2, 4);
        x.sheet(4, 1, 6);
        int pairs = 0;
        for (int one = 0; one < 9; one++) {
            for (int other = one + 1; other < 9 && pairs < 30; other++) {
                x.pair(one, other);
                pairs++;
            }
        }
        for (int i = 0; i < 20; i++) {
            x.lay(i % 2 == 0 ? 3 << i % 9 : 1);
        }
        for (int i = 0; i < 60; i++) {
            x.hunt(i % 3 == 2 ? 100 + i % 7 : i % 7);
        }
        for (int place = 1; place < 6; place++) {
            x.weigh(0, place, 10 + place);
            x.weigh(1, 2 * place, 20 + place);
            x.weigh(4, place, 30 + place);
        }
        Nets.hold(x, 1, 0, 2, 4, 3, 10, 5, 9, 6, 8, 7);
        return x;
    }

    /** All is there, but nothing is full, and in hand is less than a row. */
    private static NarrowRows half() {
        NarrowRows x = Nets.path(6);
        x.pair(0, 1);
        x.pair(1, 2);
        Nets.hold(x, 4, 2, 0);
        x.lay(3);
        x.lay(7);
        for (int move : new int[] {0, 1, 100, 2, 2}) {
            x.hunt(move);
        }
        return x;
    }

    private void full(String call, ToIntFunction<NarrowRows> refused, int due) {
        changesNothing("full: " + call, full(), full(), refused, due);
    }

    private void half(String call, ToIntFunction<NarrowRows> refused, int due) {
        changesNothing("half: " + call, half(), half(), refused, due);
    }

    private void changesNothing(String call, NarrowRows asked, NarrowRows twin, ToIntFunction<NarrowRows> refused, int due) {
        is(call, refused.applyAsInt(asked), due);
        like(call, answers(asked, true), answers(twin, true));
        is(call + ": undo()", asked.undo(), twin.undo());
        like(call + ", undo()", answers(asked, false), answers(twin, false));
    }

    private void like(String call, List<Integer> got, List<Integer> want) {
        is(call + ": how many answers are alike", alike(got, want), want.size());
    }

    private static int alike(List<Integer> got, List<Integer> want) {
        int alike = 0;
        while (alike < got.size() && alike < want.size() && got.get(alike).equals(want.get(alike))) {
            alike++;
        }
        return alike;
    }

    private static List<Integer> answers(NarrowRows x, boolean all) {
        List<Integer> found = new ArrayList<>();
        for (int what = 0; what <= 8; what++) {
            found.add(x.count(what));
        }
        int posts = x.count(0);
        for (int post = 0; post < posts; post++) {
            for (int what = 0; what <= 4; what++) {
                found.add(x.about(post, what));
            }
            for (int other = 0; other < post && all; other++) {
                found.add(x.road(post, other));
            }
        }
        for (int place = 0; place < x.count(4); place++) {
            found.add(x.at(place));
        }
        for (int cost = 0; cost <= 5; cost++) {
            found.add(x.cost(cost));
        }
        for (int what = 0; what <= 3; what++) {
            found.add(x.clean(what));
        }
        found.add(x.lawful());
        found.add(x.good());
        return found;
    }

    @Sentence(of = "Terms", says = SENTENCE)
    void refusedPosts() {
        full("post()", x -> x.post(), FULL);
    }

    @Sentence(of = "Terms", says = SENTENCE)
    void refusedSheets() {
        full("sheet(11, 0, 1)", x -> x.sheet(11, 0, 1), BAD);
        full("sheet(0, 3, 1)", x -> x.sheet(0, 3, 1), BAD);
        full("sheet(0, 0, 12)", x -> x.sheet(0, 0, 12), BAD);
        full("sheet(0, 0, -1)", x -> x.sheet(0, 0, -1), SIZE);
        half("sheet(6, 0, 1)", x -> x.sheet(6, 0, 1), BAD);
        half("sheet(0, 0, -1)", x -> x.sheet(0, 0, -1), SIZE);
    }

    @Sentence(of = "Terms", says = SENTENCE)
    void refusedLosses() {
        full("lose(11)", x -> x.lose(11), BAD);
        full("lose(3)", x -> x.lose(3), NOTHING);
        half("lose(-1)", x -> x.lose(-1), BAD);
    }

    @Sentence(of = "Terms", says = SENTENCE)
    void refusedWeights() {
        full("weigh(11, 0, 1)", x -> x.weigh(11, 0, 1), BAD);
        full("weigh(3, 0, 1)", x -> x.weigh(3, 0, 1), NOTHING);
        full("weigh(2, 4, 1)", x -> x.weigh(2, 4, 1), INDEX);
        full("weigh(1, -1, 1)", x -> x.weigh(1, -1, 1), INDEX);
        full("weigh(0, 1, 128)", x -> x.weigh(0, 1, 128), BAD);
        full("weigh(1, 2, 1001)", x -> x.weigh(1, 2, 1001), BAD);
        half("weigh(0, 1, -1)", x -> x.weigh(0, 1, -1), BAD);
    }

    @Sentence(of = "Terms", says = SENTENCE)
    void refusedCopies() {
        full("copy(11, 0, 1)", x -> x.copy(11, 0, 1), BAD);
        full("copy(0, 11, 1)", x -> x.copy(0, 11, 1), BAD);
        full("copy(0, 3, 1)", x -> x.copy(0, 3, 1), NOTHING);
        full("copy(0, 1, 5)", x -> x.copy(0, 1, 5), NO);
        full("copy(1, 4, 7)", x -> x.copy(1, 4, 7), INDEX);
        full("copy(4, 1, 7)", x -> x.copy(4, 1, 7), INDEX);
        full("copy(4, 1, -1)", x -> x.copy(4, 1, -1), INDEX);
    }

    @Sentence(of = "Terms", says = SENTENCE)
    void refusedPairs() {
        full("pair(11, 0)", x -> x.pair(11, 0), BAD);
        full("pair(9, 9)", x -> x.pair(9, 9), BAD);
        full("pair(1, 0)", x -> x.pair(1, 0), NO);
        full("pair(9, 10)", x -> x.pair(9, 10), FULL);
        full("pair(0, 1)", x -> x.pair(0, 1), FULL);
        half("pair(2, 0)", x -> x.pair(2, 0), NO);
        half("pair(3, 3)", x -> x.pair(3, 3), BAD);
    }

    @Sentence(of = "Terms", says = SENTENCE)
    void refusedParts() {
        full("part(11, 0)", x -> x.part(11, 0), BAD);
        full("part(0, 0)", x -> x.part(0, 0), BAD);
        full("part(1, 0)", x -> x.part(1, 0), NO);
        half("part(0, 2)", x -> x.part(0, 2), NO);
    }

    @Sentence(of = "Terms", says = SENTENCE)
    void refusedQuestionsOfTheNet() {
        full("road(3, 3)", x -> x.road(3, 3), BAD);
        full("about(11, 0)", x -> x.about(11, 0), BAD);
        full("about(0, 5)", x -> x.about(0, 5), BAD);
        full("count(9)", x -> x.count(9), BAD);
    }

    @Sentence(of = "Terms", says = SENTENCE)
    void refusedPuts() {
        full("put(7)", x -> x.put(7), BAD);
        full("put(11)", x -> x.put(11), BAD);
        half("put(4)", x -> x.put(4), BAD);
        half("put(6)", x -> x.put(6), BAD);
        half("put(-1)", x -> x.put(-1), BAD);
    }

    @Sentence(of = "Terms", says = SENTENCE)
    void refusedMoves() {
        full("move(0, 11)", x -> x.move(0, 11), BAD);
        full("move(11, 0)", x -> x.move(11, 0), BAD);
        half("move(0, 3)", x -> x.move(0, 3), BAD);
        half("move(3, 0)", x -> x.move(3, 0), BAD);
        half("move(-1, 2)", x -> x.move(-1, 2), BAD);
        half("at(3)", x -> x.at(3), BAD);
    }

    @Sentence(of = "Terms", says = SENTENCE)
    void refusedQuestionsOfTheRow() {
        full("cost(6)", x -> x.cost(6), BAD);
        half("cost(1)", x -> x.cost(CUTS), NO);
        full("where(3)", x -> x.where(SUM), BAD);
        half("where(1)", x -> x.where(CUTS), NO);
        half("lawful()", x -> x.lawful(), NO);
    }

    @Sentence(of = "Terms", says = SENTENCE)
    void refusedQuestionsOfBestRows() {
        full("least(0)", x -> x.least(SPAN), LARGE);
        full("least(6)", x -> x.least(6), BAD);
        full("many(4)", x -> x.many(ROUND), LARGE);
        full("many(-1)", x -> x.many(-1), BAD);
        full("number(0)", x -> x.number(SPAN), LARGE);
        full("number(6)", x -> x.number(6), BAD);
        half("number(1)", x -> x.number(CUTS), NO);
    }

    @Sentence(of = "Terms", says = SENTENCE)
    void refusedBestRows() {
        full("best(0, 0)", x -> x.best(SPAN, 0), LARGE);
        full("best(4, 1)", x -> x.best(ROUND, 1), LARGE);
        full("best(6, 0)", x -> x.best(6, 0), BAD);
        full("best(3, -1)", x -> x.best(SUM, -1), BAD);
        full("best(3, MAX)", x -> x.best(SUM, MAX), NONE);
        half("best(3, MAX)", x -> x.best(SUM, MAX), NONE);
        half("best(0, 720)", x -> x.best(SPAN, 720), NONE);
        half("best(0, -1)", x -> x.best(SPAN, -1), BAD);
    }

    @Sentence(of = "Terms", says = SENTENCE)
    void refusedBetterRows() {
        full("better(3, 0)", x -> x.better(SUM, 0), BAD);
        full("better(3, 61)", x -> x.better(SUM, 61), BAD);
        full("better(6, 1)", x -> x.better(6, 1), BAD);
        half("better(3, 60)", x -> x.better(SUM, 60), NO);
    }

    @Sentence(of = "Terms", says = SENTENCE)
    void refusedWallsAndBags() {
        full("wall(1, 11)", x -> x.wall(CUTS, 11), BAD);
        full("stone(0, 1)", x -> x.stone(SPAN, 1), BAD);
        full("bag(11)", x -> x.bag(11), BAD);
        half("bag(0)", x -> x.bag(0), NO);
    }

    @Sentence(of = "Terms", says = SENTENCE)
    void refusedBagsInHand() {
        full("lay(2048)", x -> x.lay(2048), BAD);
        full("lay(2047)", x -> x.lay(2047), FULL);
        half("lay(64)", x -> x.lay(64), BAD);
        half("lay(-1)", x -> x.lay(-1), BAD);
    }

    @Sentence(of = "Terms", says = SENTENCE)
    void refusedRowsOfBags() {
        full("rowOf()", x -> x.rowOf(), NO);
        half("rowOf()", x -> x.rowOf(), NO);
    }

    @Sentence(of = "Terms", says = SENTENCE)
    void refusedHunts() {
        full("hunt(11)", x -> x.hunt(11), BAD);
        full("hunt(0)", x -> x.hunt(0), FULL);
        full("clean(4)", x -> x.clean(4), BAD);
        half("hunt(111)", x -> x.hunt(111), BAD);
    }

    @Sentence(of = "Terms", says = SENTENCE)
    void refusedPlans() {
        half("plan()", x -> x.plan(), NO);
    }

    @Sentence(of = "Terms", says = SENTENCE)
    void refusedUndo() {
        for (int i = 0; i < 2; i++) {
            posts(1);
            hold(0);
            lay(1);
            hunt(0);
            x.undo();
            is("undo()", x.undo(), NO);
            is("count(0)", x.count(0), 0);
            is("count(4)", x.count(4), 1);
            is("count(5)", x.count(5), i + 1);
            is("count(6)", x.count(6), i + 1);
            is("count(7)", x.count(7), 0);
        }
    }
}
