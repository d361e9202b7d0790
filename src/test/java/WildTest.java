/**
 * Every call with arguments from far outside, on nets of no, some and all posts: none may throw, and
 * each must answer as the model does.
 */
public final class WildTest {
    private static final int[] WILD = {Integer.MIN_VALUE, Integer.MIN_VALUE + 1, -1000, -32, -14, -11, -1, 0, 1, 2, 3, 4,
        5, 7, 10, 11, 12, 31, 32, 33, 60, 61, 99, 100, 110, 111, 128, 1001, 2047, 2048, 65536,
        Integer.MAX_VALUE - 1, Integer.MAX_VALUE};
    private static final int[] FEW = {Integer.MIN_VALUE, -1, 0, 1, 4, 10, 11, 12, 32, 128, 1001, Integer.MAX_VALUE};

    private static final Due due = new Due("WildTest");

    public static void main(String[] args) {
        for (int posts : new int[] {0, 1, 5, 11}) {
            for (int filled = 0; filled < 2; filled++) {
                for (int call = 0; call < 18; call++) {
                    oneArgument(posts, filled == 1, call);
                }
            }
        }
        due.ending();
    }

    private NarrowRows rows = new NarrowRows();
    private Model model = new Model();

    private WildTest(int posts, boolean filled) {
        for (int i = 0; i < posts; i++) {
            rows.post();
            model.post();
        }
        for (int i = 0; filled && i < posts; i++) {
            rows.sheet(i, i % 3, 11 - i);
            model.sheet(i, i % 3, 11 - i);
            rows.weigh(i, i / 2, 5);
            model.weigh(i, i / 2, 5);
            rows.pair(i, (i + 2) % posts);
            model.pair(i, (i + 2) % posts);
            rows.put(posts - 1 - i);
            model.put(posts - 1 - i);
            rows.lay((1 << posts) - 1 >> i);
            model.lay((1 << posts) - 1 >> i);
            rows.hunt(i);
            model.hunt(i);
        }
    }

    private static void oneArgument(int posts, boolean filled, int call) {
        for (int first : WILD) {
            WildTest test = new WildTest(posts, filled);
            String on = posts + " posts, filled " + filled + ": call " + call + " with " + first;
            if (call < 8) {
                due.is(on, test.one(test.rows, null, call, first), test.one(null, test.model, call, first));
                continue;
            }
            for (int second : call < 16 ? WILD : FEW) {
                if (call < 16) {
                    due.is(on + ", " + second, test.two(test.rows, null, call, first, second),
                            test.two(null, test.model, call, first, second));
                    continue;
                }
                for (int third : FEW) {
                    due.is(on + ", " + second + ", " + third, test.three(test.rows, null, call, first, second, third),
                            test.three(null, test.model, call, first, second, third));
                }
            }
        }
    }

    private int one(NarrowRows x, Model m, int call, int a) {
        switch (call) {
            case 0:
                return x != null ? x.lose(a) : m.lose(a);
            case 1:
                return x != null ? x.put(a) : m.put(a);
            case 2:
                return x != null ? x.at(a) : m.at(a);
            case 3:
                return x != null ? x.cost(a) : m.cost(a);
            case 4:
                return x != null ? x.where(a) : m.where(a);
            case 5:
                return x != null ? x.lay(a) : m.lay(a);
            case 6:
                return x != null ? x.hunt(a) : m.hunt(a);
            default:
                return x != null ? x.clean(a) + 1000 * x.count(a) : m.clean(a) + 1000 * m.count(a);
        }
    }

    /** The model writes all rows out: of 11 posts it is not asked for. */
    private boolean dear(int cost) {
        return model.state.posts > 7 && cost >= 0 && cost <= 5 && cost != 0 && cost != 4;
    }

    private int two(NarrowRows x, Model m, int call, int a, int b) {
        switch (call) {
            case 8:
                return x != null ? x.pair(a, b) : m.pair(a, b);
            case 9:
                return x != null ? x.part(a, b) : m.part(a, b);
            case 10:
                return x != null ? x.road(a, b) : m.road(a, b);
            case 11:
                return x != null ? x.about(a, b) : m.about(a, b);
            case 12:
                return x != null ? x.move(a, b) : m.move(a, b);
            case 13:
                return x != null ? x.better(a, b) : m.better(a, b);
            case 14:
                return x != null ? x.wall(a, b) + 4096 * x.stone(a, b) : m.wall(a, b) + 4096 * m.stone(a, b);
            default:
                if (dear(a)) {
                    return 0;
                }
                return x != null ? x.best(a, b) + 16 * x.least(a) + 1024 * x.number(a)
                        : m.best(a, b) + 16 * m.least(a) + 1024 * m.number(a);
        }
    }

    private int three(NarrowRows x, Model m, int call, int a, int b, int c) {
        if (call == 16) {
            return x != null ? x.sheet(a, b, c) : m.sheet(a, b, c);
        }
        return x != null ? x.weigh(a, b, c) + 4096 * x.copy(a, b, c) : m.weigh(a, b, c) + 4096 * m.copy(a, b, c);
    }
}
